/-! the reference reads items, a text -/
theorem fldO_le : ∀ w, w < 6 → fldO w ≤ 8 ∧ fldO w < 10 := by decide
theorem mostO_le {S : Nat → Int32} {o1 w : Nat} (ho : o1 ≤ 1023) (hw : w < 6) : mostO S o1 (fldO w) ≤ mostB (fldO w) ∧ mostO S o1 (fldO w) < 1024 := by
  rcases (show w = 0 ∨ w = 1 ∨ w = 2 ∨ w = 3 ∨ w = 4 ∨ w = 5 by omega) with rfl | rfl | rfl | rfl | rfl | rfl
  · exact ⟨Nat.le_refl _, by show (60 : Nat) < 1024; decide⟩
  · exact ⟨Nat.le_refl _, by show (9 : Nat) < 1024; decide⟩
  · exact ⟨Nat.le_refl _, by show (40 : Nat) < 1024; decide⟩
  · exact ⟨Nat.le_refl _, by show (3 : Nat) < 1024; decide⟩
  · exact ⟨Nat.le_refl _, by show (2 : Nat) < 1024; decide⟩
  · exact ⟨ho, by show o1 < 1024; omega⟩
theorem least_lt (w : Nat) : leastN w < 1024 := by unfold leastN; split <;> decide
/-- where a lock's words end, S still holds together -/
theorem rdO_ok {T : Nat → Int32} {τ k o1 : Nat} (ho : o1 ≤ 1023) : ∀ f i S tk, i + f = 6 → Inv S → nv S 3 = k + 1 → Inv (rdO T τ k o1 f i S tk).2.1 ∧ nv (rdO T τ k o1 f i S tk).2.1 3 = k + 1
  | 0, i, S, tk, _, hI, h3 => ⟨hI, h3⟩
  | f + 1, i, S, tk, hi, hI, h3 => by
    unfold rdO
    by_cases c1 : tk.1 = 1 ∧ isW T tk.2.1 tk.2.2.1 (wO i)
    · rw [cif_y c1]
      by_cases c2 : (tok T τ tk.2.2.1).1 = 2 ∧ leastN (fldO i) ≤ (tok T τ tk.2.2.1).2.2.2 ∧ (tok T τ tk.2.2.1).2.2.2 ≤ mostO S o1 (fldO i)
      · rw [cif_y c2]
        have hf := fldO_le i (by omega)
        have hm := mostO_le (S := S) ho (show i < 6 by omega)
        refine rdO_ok ho f (i + 1) _ _ (by omega) (Inv_changeB hI (by omega) (by omega) c2.2.1 (Nat.le_trans c2.2.2 hm.1)) ?_
        rw [nv_ne (by unfold tr; omega)]
        exact h3
      · rw [cif_n c2]; exact ⟨hI, h3⟩
    · rw [cif_n c1]
      exact rdO_ok ho f (i + 1) S tk (by omega) hI h3
theorem rdL_ok {T : Nat → Int32} {τ kd : Nat} {S : Nat → Int32} {tk : Tk} (hI : Inv S) (hk : kd ≤ 6) : Inv (rdL T τ S tk kd).2.1 := by
  unfold rdL
  have h10 := hI.1.2
  by_cases c : nv S 3 = 10
  · rw [if_pos c]; exact hI
  · rw [if_neg c]
    have h2 := p2le _ h10
    obtain ⟨a, b⟩ := Inv_cm hI (by omega) hk
    exact (rdO_ok (by omega) 6 0 _ _ rfl a b).1
theorem rdI_ok {T : Nat → Int32} {τ : Nat} {S : Nat → Int32} {tk : Tk} (hI : Inv S) : Inv (rdI T τ S tk).2.1 := by
  unfold rdI
  cases e : whW wK T tk 7 with
  | some kd => exact rdL_ok hI (by have := (whW_b _ e).1; omega)
  | none =>
    dsimp only
    cases e2 : whW wR T tk 3 with
    | none => exact hI
    | some w =>
      dsimp only
      have hw := (whW_b _ e2).1
      by_cases c : (tok T τ tk.2.2.1).1 = 2 ∧ (tok T τ tk.2.2.1).2.2.2 ≤ mostR S w
      · rw [cif_y c]; exact Inv_rule hI (by omega) c.2
      · rw [cif_n c]; exact hI
theorem eB_i {r : Option Nat} {i : Nat} (h : ∀ b, r = some b → b < 1024) (hi : i < 1024) : eB r = nI i ↔ r = some i := by
  cases r with
  | none => exact ⟨fun z => absurd z.symm (m1_ne (by omega)), fun z => by cases z⟩
  | some b =>
    have := h b rfl
    show nI b = nI i ↔ _
    rw [nI_eq_iff (by omega) (by omega)]
    exact ⟨fun z => by rw [z], fun z => Option.some.inj z⟩
theorem whO_i {T : Nat → Int32} {tk : Tk} {i : Nat} (hi : i < 6) : whW wO T tk 6 = some i ↔ tk.1 = 1 ∧ isW T tk.2.1 tk.2.2.1 (wO i) :=
  ⟨fun h => (whW_b _ h).2, fun h => whW_y 6 hi (fun v hv => (wfO v hv).2.2.1) (fun v v' a b => wuO v a v' b) h.1 h.2⟩
def tkw (τ : Nat) (tk : Tk) : Prop := tk.2.1 ≤ tk.2.2.1 ∧ tk.2.2.1 ≤ τ
theorem tkw_v {T : Nat → Int32} {τ : Nat} {tk : Tk} (h : tkv T τ tk) : tkw τ tk := by
  obtain ⟨p, hp, e⟩ := h
  subst e
  exact ⟨(tok_ok hp).2.1, (tok_ok hp).2.2.1⟩
theorem tkw_n {T : Nat → Int32} {τ : Nat} {tk : Tk} (h : tkw τ tk) : tkw τ (tok T τ tk.2.2.1) ∧ tk.2.2.1 ≤ (tok T τ tk.2.2.1).2.1 := ⟨⟨(tok_ok h.2).2.1, (tok_ok h.2).2.2.1⟩, (tok_ok h.2).1⟩
theorem rdO_mono {T : Nat → Int32} {τ k o1 : Nat} : ∀ f i S tk, tkw τ tk → tkw τ (rdO T τ k o1 f i S tk).2.2 ∧ tk.2.1 ≤ (rdO T τ k o1 f i S tk).2.2.2.1
  | 0, i, S, tk, h => ⟨h, Nat.le_refl _⟩
  | f + 1, i, S, tk, h => by
    obtain ⟨a1, a2⟩ := tkw_n (T := T) h
    obtain ⟨b1, b2⟩ := tkw_n (T := T) a1
    have := h.1
    have := a1.1
    unfold rdO
    by_cases c1 : tk.1 = 1 ∧ isW T tk.2.1 tk.2.2.1 (wO i)
    · rw [cif_y c1]
      by_cases c2 : (tok T τ tk.2.2.1).1 = 2 ∧ leastN (fldO i) ≤ (tok T τ tk.2.2.1).2.2.2 ∧ (tok T τ tk.2.2.1).2.2.2 ≤ mostO S o1 (fldO i)
      · rw [cif_y c2]
        have ih := rdO_mono (T := T) (τ := τ) (k := k) (o1 := o1) f (i + 1) (upd S (tr k (fldO i)) (nI (tok T τ tk.2.2.1).2.2.2)) _ b1
        exact ⟨ih.1, by omega⟩
      · rw [cif_n c2]; exact ⟨a1, by show tk.2.1 ≤ (tok T τ tk.2.2.1).2.1; omega⟩
    · rw [cif_n c1]
      exact rdO_mono f (i + 1) S tk h
theorem rdI_mono {T : Nat → Int32} {τ : Nat} {S : Nat → Int32} {tk : Tk} (h : tkw τ tk) : tk.2.1 ≤ (rdI T τ S tk).2.2.2.1 := by
  obtain ⟨a1, a2⟩ := tkw_n (T := T) h
  obtain ⟨b1, b2⟩ := tkw_n (T := T) a1
  have := h.1
  have := a1.1
  unfold rdI
  cases e : whW wK T tk 7 with
  | some kd =>
    dsimp only
    unfold rdL
    by_cases c : nv S 3 = 10
    · rw [if_pos c]; exact Nat.le_refl _
    · rw [if_neg c]
      have := (rdO_mono (T := T) (τ := τ) (k := nv S 3) (o1 := 2 ^ nv S 3 - 1) 6 0 (cmS S (nI kd)) _ a1).2
      omega
  | none =>
    dsimp only
    cases e2 : whW wR T tk 3 with
    | none => exact Nat.le_refl _
    | some w =>
      dsimp only
      by_cases c : (tok T τ tk.2.2.1).1 = 2 ∧ (tok T τ tk.2.2.1).2.2.2 ≤ mostR S w
      · rw [cif_y c]; show tk.2.1 ≤ (tok T τ (tok T τ tk.2.2.1).2.2.1).2.1; omega
      · rw [cif_n c]; show tk.2.1 ≤ (tok T τ tk.2.2.1).2.1; omega
theorem Tz_11s {σ σ' : St2} {x : Int32} (h : Tz σ σ') : Tz (sr σ 0 (upd (σ.1 0) 11 x)) (si σ' 0 11 x) := by
  obtain ⟨a, b, c, v, e⟩ := h
  subst e
  exact ⟨_, _, _, _, si_ts11⟩
theorem Tz_14 {σ : St2} {x : Int32} : Tz σ (si σ 0 14 x) := ⟨_, _, _, _, by rw [← si_ts14 (c := σ.1 0 14), ts_self]⟩
theorem fill2 {α : Type} {A B C : Nat → α} {n : Nat} : fa_fill (fa_fill A B n) C n = fa_fill A C n := by
  funext i
  unfold fa_fill
  by_cases h : i < n
  · rw [if_pos h, if_pos h, if_pos h]
  · rw [if_neg h, if_neg h]
theorem neg_b : ∀ b, b < 121 → (-1 : Int32) - nI b < 0 := by decide +kernel
section MU
variable {ev : EV} {σ : St2} {K : PO}
theorem R_readsLock {T : Nat → Int32} {τ kd : Nat} {tk : Tk} (hτ : τ ≤ 120) (hI : Inv (σ.1 1)) (hL : LtI σ) (hkd : kd ≤ 6) (hT : Tkn T τ tk σ) (hk : ∀ σ', Tz (sr σ 1 (rdL T τ (σ.1 1) tk kd).2.1) σ' → Tkn T τ (rdL T τ (σ.1 1) tk kd).2.2 σ' → K (some (.int (if (rdL T τ (σ.1 1) tk kd).1 = true then 1 else 0))) σ') : Rn 1 ev mM_readsLock [.ref 0, .int (nI kd)] σ K := by
  have hn := hI.1.2
  have h2 := p2le _ hn
  unfold rdL at hk
  refine Rn_V (by decide) rc6 rfl rfl ?_
  refine PW_blk okM_readsLock 0 rfl SpM_ok ?_
  simp only [wL0, wLc, true_and, w2, lg0, lgi, lgr, lgl, w35, kM0, rM0, kM1, nM1, w0, w39, tn3, vi3_120, tn10, vi10_120, w79, hI.1.1]
  rw [show (10 : Int32) = nI 10 from rfl, nI_eq_iff (by omega) (by decide)]
  by_cases c0 : nv (σ.1 1) 3 = 10
  · rw [if_pos c0] at hk
    refine b3Y c0 ?_
    refine PW_blk okM_readsLock 1 rfl SpM_ok ?_
    simp only [wL0, wLc, true_and, w0, w85]
    refine ⟨Or.inl trivial, hk σ ?_ hT⟩
    show Tz (sr σ 1 (σ.1 1)) σ
    rw [sr_self]
    exact Tz_r
  rw [if_neg c0] at hk
  refine b3N c0 ?_
  generalize hkk : nv (σ.1 1) 3 = k at *
  obtain ⟨iC, iN⟩ := Inv_cm hI (by omega) hkd
  rw [hkk] at iN
  have ho1 : 2 ^ k - 1 ≤ 1023 := by omega
  have e3 : σ.1 1 3 = nI k := by rw [hI.1.1, hkk]
  refine PW_blk okM_readsLock 2 rfl SpM_ok ?_
  simp only [wL0, wLc, true_and, w2, lg0, lgi, lgr, lgl, w54_1, q40, q41, q42, q43, q44, Option.toList_some, Option.toList_none, List.cons_append, List.nil_append, sp_allLocks, w4, ls00, ls0i, ls0r, ls0l, lsi, lsr, lsl, Option.map_some, w35, kM0, rM0, kM1, nM1, w0, w39, w1, w54_2, tn0, vi0_120, tn3, vi3_120, w71, e3]
  rw [alF_n _ (by omega)]
  refine R_comes hI (by omega) ?_
  simp only [wL0, wLc, true_and, w2, lg0, lgi, lgr, lgl, w54_1, q40, q41, q42, q43, q44, Option.toList_some, Option.toList_none, List.cons_append, List.nil_append, sp_allLocks, w4, ls00, ls0i, ls0r, ls0l, lsi, lsr, lsl, Option.map_some, w35, kM0, rM0, kM1, nM1, w0, w39, w1, w54_2, tn0, vi0_120, tn3, vi3_120, w71]
  refine R_next hτ (Tkn_sr hT) (fun σ' hz hT2 => ?_)
  simp only [wL0, wLc, true_and, w2, lg0, lgi, lgr, lgl, w54_1, q40, q41, q42, q43, q44, Option.toList_some, Option.toList_none, List.cons_append, List.nil_append, sp_allLocks, w4, ls00, ls0i, ls0r, ls0l, lsi, lsr, lsl, Option.map_some, w35, kM0, rM0, kM1, nM1, w0, w39, w1, w54_2, tn0, vi0_120, tn3, vi3_120, w71]
  generalize hR : rdO T τ k (2 ^ k - 1) 6 0 (cmS (σ.1 1) (nI kd)) (tok T τ tk.2.2.1) = R at hk
  have key := lp_up (n := 6) (P := fun i => ∀ S tk' σ', Inv S → nv S 3 = k + 1 → Tz (sr σ 1 S) σ' → Tkn T τ tk' σ' → R = rdO T τ k (2 ^ k - 1) (6 - i) i S tk' → PW 1 ev mM_readsLock 37 [.ref 0, .int (nI kd), .int (nI (2 ^ k - 1)), .int (nI k), .int (nI i)] [] σ' K) ?_ ?_ 0 (by decide)
  · exact key _ _ _ iC iN hz hT2 hR.symm
  · intro S tk' σ' hIS h3 hz hT2 he
    refine PW_blk okM_readsLock 3 rfl SpM_ok ?_
    simp only [wL0, wLc, true_and, w1, lg0, lgi, lgr, lgl, w0, w81]
    refine b3N (by decide) ?_
    refine PW_blk okM_readsLock 15 rfl SpM_ok ?_
    simp only [wL0, wLc, true_and, w0, w85]
    rw [he] at hk
    exact ⟨Or.inr trivial, hk σ' hz hT2⟩
  · intro i hi ih S tk' σ' hIS h3 hz hT2 he
    have hLz : LtI σ' := LtI_z hz (LtI_sr hL)
    have e1 : σ'.1 1 = S := by rw [Tz_k (by decide) hz, sr1]
    rw [show 6 - i = (6 - (i + 1)) + 1 by omega] at he
    unfold rdO at he
    refine PW_blk okM_readsLock 3 rfl SpM_ok ?_
    simp only [wL0, wLc, true_and, w1, lg0, lgi, lgr, lgl, w0, w81]
    refine b3Y (nI_lt hi (by decide)) ?_
    refine PW_blk okM_readsLock 4 rfl SpM_ok ?_
    simp only [wL0, wLc, true_and, w2, lg0, lgi, lgr, lgl, w35, kM0, rM17, kM10, nM10, w54_2, q40, q41, q42, q43, q44, Option.toList_some, Option.toList_none, List.cons_append, List.nil_append, w1, w79]
    refine R_wordOf (n := 6) (wd := wO) (T := T) (τ := τ) (tk := tk') kM10 nM10 (by decide) (by decide) wfO hLz.2.1 hT2 ?_
    simp only [wL0, wLc, true_and, w2, lg0, lgi, lgr, lgl, w35, kM0, rM17, kM10, nM10, w54_2, q40, q41, q42, q43, q44, Option.toList_some, Option.toList_none, List.cons_append, List.nil_append, w1, w79]
    rw [eB_i (fun b hb => by have := (whW_b _ hb).1; omega) (by omega), whO_i hi]
    by_cases c1 : tk'.1 = 1 ∧ isW T tk'.2.1 tk'.2.2.1 (wO i)
    rotate_left
    · rw [cif_n c1] at he
      refine b3N c1 ?_
      refine PW_blk okM_readsLock 14 rfl SpM_ok ?_
      simp only [wL0, wLc, true_and, w7, lg0, lgi, lgr, lgl, ls00, ls0i, ls0r, ls0l, lsi, lsr, lsl, Option.map_some, w70]
      rw [show (1 : Int32) = nI 1 from rfl, nI_add]
      exact ih S tk' σ' hIS h3 hz hT2 he
    rw [cif_y c1] at he
    refine b3Y c1 ?_
    have hf := fldO_le i hi
    have hm := mostO_le (S := S) ho1 hi
    have hvi : vp_in (nI i) 6 := vp_in_nI hi (by decide)
    have cli : (nI i).toNatClampNeg = i := nI_clamp (by omega)
    refine PW_blk okM_readsLock 5 rfl SpM_ok ?_
    simp only [wL0, wLc, true_and, w2, lg0, lgi, lgr, lgl, w54_1, q40, q41, q42, q43, q44, Option.toList_some, Option.toList_none, List.cons_append, List.nil_append, w35, kM0, rM19, kM12, nM12, w1, w39, w4, ls00, ls0i, ls0r, ls0l, lsi, lsr, lsl, Option.map_some, w0, tn1, w79]
    refine R_next hτ hT2 (fun σ2 hz2 hT3 => ?_)
    have hLz2 : LtI σ2 := LtI_z hz2 hLz
    have e12 : σ2.1 1 = S := by rw [Tz_k (by decide) hz2, e1]
    have hzz : Tz (sr σ 1 S) σ2 := Tz_t hz hz2
    simp only [wL0, wLc, true_and, w2, lg0, lgi, lgr, lgl, w54_1, q40, q41, q42, q43, q44, Option.toList_some, Option.toList_none, List.cons_append, List.nil_append, w35, kM0, rM19, kM12, nM12, w1, w39, w4, ls00, ls0i, ls0r, ls0l, lsi, lsr, lsl, Option.map_some, w0, tn1, w79, eq_true hvi, cli, hLz2.2.2.2 i hi]
    have fin : PW 1 ev mM_readsLock 99 [.ref 0, .int (nI kd), .int (nI (2 ^ k - 1)), .int (nI k), .int (nI i), .int (nI (fldO i))] [.int (nI (mostO S (2 ^ k - 1) (fldO i))), .int (nI (leastN (fldO i))), .ref 0] σ2 K := by
      refine PW_blk okM_readsLock 11 rfl SpM_ok ?_
      simp only [wL0, wLc, true_and, w54_3, q40, q41, q42, q43, q44, Option.toList_some, Option.toList_none, List.cons_append, List.nil_append, w4, ls00, ls0i, ls0r, ls0l, lsi, lsr, lsl, Option.map_some, w1, lg0, lgi, lgr, lgl, w75]
      refine R_takesNumber hτ (least_lt _) hm.2 hT3 (fun d1 d2 d3 σ3 hz3 hT4 => ?_) (fun d => ?_)
      · rw [cif_y ⟨d1, d2, d3⟩] at he
        simp only [wL0, wLc, true_and, w54_3, q40, q41, q42, q43, q44, Option.toList_some, Option.toList_none, List.cons_append, List.nil_append, w4, ls00, ls0i, ls0r, ls0l, lsi, lsr, lsl, Option.map_some, w1, lg0, lgi, lgr, lgl, w75]
        refine b3N (lt0 (by omega)) ?_
        have hk10 : k < 10 := by omega
        refine PW_blk okM_readsLock 13 rfl SpM_ok ?_
        simp only [wL0, wLc, true_and, w2, lg0, lgi, lgr, lgl, w1, w54_4, q40, q41, q42, q43, q44, Option.toList_some, Option.toList_none, List.cons_append, List.nil_append, sp_puts, w71, gv_n hk10 hf.2, gt_n hk10 hf.2, si_is]
        have e13 : σ3.1 1 = S := by rw [Tz_k (by decide) hz3, e12]
        rw [e13]
        refine PW_blk okM_readsLock 14 rfl SpM_ok ?_
        simp only [wL0, wLc, true_and, w7, lg0, lgi, lgr, lgl, ls00, ls0i, ls0r, ls0l, lsi, lsr, lsl, Option.map_some, w70]
        refine PW_loc 5 ?_
        rw [show (1 : Int32) = nI 1 from rfl, nI_add]
        refine ih _ _ _ (Inv_changeB hIS (by omega) (by omega) d2 (Nat.le_trans d3 hm.1)) ?_ ?_ (Tkn_sr hT4) he
        · rw [nv_ne (by unfold tr; omega)]
          exact h3
        · have := Tz_sr (k := 1) (r := upd S (tr k (fldO i)) (nI (tok T τ tk'.2.2.1).2.2.2)) (by decide) (Tz_t hzz hz3)
          rw [sr_sr] at this
          exact this
      · rw [cif_n d] at he
        simp only [wL0, wLc, true_and, w54_3, q40, q41, q42, q43, q44, Option.toList_some, Option.toList_none, List.cons_append, List.nil_append, w4, ls00, ls0i, ls0r, ls0l, lsi, lsr, lsl, Option.map_some, w1, lg0, lgi, lgr, lgl, w75]
        refine b3Y (by decide) ?_
        refine PW_blk okM_readsLock 12 rfl SpM_ok ?_
        simp only [wL0, wLc, true_and, w0, w85]
        rw [he] at hk
        exact ⟨Or.inl trivial, hk σ2 hzz hT3⟩
    have mid : PW 1 ev mM_readsLock 82 [.ref 0, .int (nI kd), .int (nI (2 ^ k - 1)), .int (nI k), .int (nI i), .int (nI (fldO i))] [.int (nI (leastN (fldO i))), .ref 0] σ2 K := by
      refine PW_blk okM_readsLock 8 rfl SpM_ok ?_
      simp only [wL0, wLc, true_and, w1, lg0, lgi, lgr, lgl, w0, w79]
      rw [show (8 : Int32) = nI 8 from rfl, nI_eq_iff (by omega) (by decide)]
      by_cases c8 : fldO i = 8
      · refine b3Y c8 ?_
        refine PW_blk okM_readsLock 9 rfl SpM_ok ?_
        simp only [wL0, wLc, true_and, w1, lg0, lgi, lgr, lgl, w70]
        have e : mostO S (2 ^ k - 1) (fldO i) = 2 ^ k - 1 := by unfold mostO; rw [if_pos c8]
        rw [e] at fin
        exact fin
      · refine b3N c8 ?_
        refine PW_blk okM_readsLock 10 rfl SpM_ok ?_
        simp only [wL0, wLc, true_and, w2, lg0, lgi, lgr, lgl, w1, w54_2, q40, q41, q42, q43, q44, Option.toList_some, Option.toList_none, List.cons_append, List.nil_append, w71]
        have e : mostO S (2 ^ k - 1) (fldO i) = mostN S (fldO i) := by unfold mostO; rw [if_neg c8]
        rw [e] at fin
        refine R_mostOf (by rw [e12]; exact hIS) (by omega) ?_
        simp only [wL0, wLc, true_and, w2, lg0, lgi, lgr, lgl, w1, w54_2, q40, q41, q42, q43, q44, Option.toList_some, Option.toList_none, List.cons_append, List.nil_append, w71]
        rw [e12]
        exact fin
    rw [show (1 : Int32) = nI 1 from rfl, nI_eq_iff (by omega) (by decide)]
    by_cases c9 : fldO i = 1
    · refine b3Y c9 ?_
      refine PW_blk okM_readsLock 6 rfl SpM_ok ?_
      simp only [wL0, wLc, true_and, w0, w70]
      have e : leastN (fldO i) = 1 := by unfold leastN; rw [if_pos c9]
      rw [e] at mid
      exact mid
    · refine b3N c9 ?_
      refine PW_blk okM_readsLock 7 rfl SpM_ok ?_
      simp only [wL0, wLc, true_and, w0, w71]
      have e : leastN (fldO i) = 0 := by unfold leastN; rw [if_neg c9]
      rw [e] at mid
      exact mid
theorem R_readsItem {T : Nat → Int32} {τ : Nat} {tk : Tk} (hτ : τ ≤ 120) (hI : Inv (σ.1 1)) (hL : LtI σ) (hT : Tkn T τ tk σ) (hk : ∀ σ', Tz (sr σ 1 (rdI T τ (σ.1 1) tk).2.1) σ' → Tkn T τ (rdI T τ (σ.1 1) tk).2.2 σ' → K (some (.int (if (rdI T τ (σ.1 1) tk).1 = true then 1 else 0))) σ') : Rn 1 ev mM_readsItem [.ref 0] σ K := by
  have hn := hI.1.2
  have h2 := p2le _ hn
  refine Rn_V (by decide) rc6 rfl rfl ?_
  refine PW_blk okM_readsItem 0 rfl SpM_ok ?_
  simp only [wL0, wLc, true_and, w2, lg0, lgi, lgr, lgl, w35, kM0, rM16, kM9, nM9, w54_2, q40, q41, q42, q43, q44, Option.toList_some, Option.toList_none, List.cons_append, List.nil_append, w4, ls00, ls0i, ls0r, ls0l, lsi, lsr, lsl, Option.map_some, w1, w74]
  refine R_wordOf (n := 7) (wd := wK) (T := T) (τ := τ) (tk := tk) kM9 nM9 (by decide) (by decide) wfK hL.1 hT ?_
  simp only [wL0, wLc, true_and, w2, lg0, lgi, lgr, lgl, w35, kM0, rM16, kM9, nM9, w54_2, q40, q41, q42, q43, q44, Option.toList_some, Option.toList_none, List.cons_append, List.nil_append, w4, ls00, ls0i, ls0r, ls0l, lsi, lsr, lsl, Option.map_some, w1, w74]
  rw [eB_neg (fun b hb => by have := (whW_b _ hb).1; omega)]
  cases e : whW wK T tk 7 with
  | some kd =>
    have er : rdI T τ (σ.1 1) tk = rdL T τ (σ.1 1) tk kd := by unfold rdI; rw [e]
    rw [er] at hk
    have hkd := (whW_b _ e).1
    refine b2N (fun z => by cases z) ?_
    refine PW_blk okM_readsItem 1 rfl SpM_ok ?_
    simp only [wL0, wLc, true_and, w2, lg0, lgi, lgr, lgl, w1, w54_2, q40, q41, q42, q43, q44, Option.toList_some, Option.toList_none, List.cons_append, List.nil_append, w85]
    refine R_readsLock hτ hI hL (show kd ≤ 6 by omega) hT (fun σ' hz hT2 => ?_)
    simp only [wL0, wLc, true_and, w2, lg0, lgi, lgr, lgl, w1, w54_2, q40, q41, q42, q43, q44, Option.toList_some, Option.toList_none, List.cons_append, List.nil_append, w85]
    exact ⟨b01.symm.symm, hk σ' hz hT2⟩
  | none =>
  refine b2Y rfl ?_
  refine PW_blk okM_readsItem 2 rfl SpM_ok ?_
  simp only [wL0, wLc, true_and, w2, lg0, lgi, lgr, lgl, w35, kM0, rM18, kM11, nM11, w54_2, q40, q41, q42, q43, q44, Option.toList_some, Option.toList_none, List.cons_append, List.nil_append, w4, ls00, ls0i, ls0r, ls0l, lsi, lsr, lsl, Option.map_some, w1, w75]
  refine R_wordOf (n := 3) (wd := wR) (T := T) (τ := τ) (tk := tk) kM11 nM11 (by decide) (by decide) wfR hL.2.2.1 hT ?_
  simp only [wL0, wLc, true_and, w2, lg0, lgi, lgr, lgl, w35, kM0, rM18, kM11, nM11, w54_2, q40, q41, q42, q43, q44, Option.toList_some, Option.toList_none, List.cons_append, List.nil_append, w4, ls00, ls0i, ls0r, ls0l, lsi, lsr, lsl, Option.map_some, w1, w75]
  rw [eB_neg (fun b hb => by have := (whW_b _ hb).1; omega)]
  have here : Tz (sr σ 1 (σ.1 1)) σ := by rw [sr_self]; exact Tz_r
  cases e2 : whW wR T tk 3 with
  | none =>
    have er : rdI T τ (σ.1 1) tk = (false, σ.1 1, tk) := by unfold rdI; rw [e]; dsimp only; rw [e2]
    rw [er] at hk
    refine b3Y rfl ?_
    refine PW_blk okM_readsItem 3 rfl SpM_ok ?_
    simp only [wL0, wLc, true_and, w0, w85]
    exact ⟨Or.inl trivial, hk σ here hT⟩
  | some w =>
    have er : rdI T τ (σ.1 1) tk = cif ((tok T τ tk.2.2.1).1 = 2 ∧ (tok T τ tk.2.2.1).2.2.2 ≤ mostR (σ.1 1) w) (true, upd (σ.1 1) (4 + w) (nI (tok T τ tk.2.2.1).2.2.2), tok T τ (tok T τ tk.2.2.1).2.2.1) (false, σ.1 1, tok T τ tk.2.2.1) := by unfold rdI; rw [e]; dsimp only; rw [e2]
    have hw := (whW_b _ e2).1
    refine b3N (fun z => by cases z) ?_
    refine PW_blk okM_readsItem 4 rfl SpM_ok ?_
    simp only [wL0, wLc, true_and, w2, lg0, lgi, lgr, lgl, w54_1, q40, q41, q42, q43, q44, Option.toList_some, Option.toList_none, List.cons_append, List.nil_append, w0, w1, w73]
    refine R_next hτ hT (fun σ2 hz2 hT2 => ?_)
    have e1 : σ2.1 1 = σ.1 1 := Tz_k (by decide) hz2
    simp only [wL0, wLc, true_and, w2, lg0, lgi, lgr, lgl, w54_1, q40, q41, q42, q43, q44, Option.toList_some, Option.toList_none, List.cons_append, List.nil_append, w0, w1, w73]
    have hmr := mostR_lt (S := σ.1 1) (w := w) hn
    have hv4 : vp_in (nI (4 + w)) 120 := vp_in_nI (by omega) (by decide)
    have cl4 : (nI (4 + w)).toNatClampNeg = 4 + w := nI_clamp (by omega)
    have e4 : (4 : Int32) + nI w = nI (4 + w) := by rw [show (4 : Int32) = nI 4 from rfl, nI_add]
    have fin : PW 1 ev mM_readsItem 63 [.ref 0, .int (-1), .int (nI w)] [.int (nI (mostR (σ.1 1) w)), .int 0, .ref 0] σ2 K := by
      refine PW_blk okM_readsItem 9 rfl SpM_ok ?_
      simp only [wL0, wLc, true_and, w54_3, q40, q41, q42, q43, q44, Option.toList_some, Option.toList_none, List.cons_append, List.nil_append, w4, ls00, ls0i, ls0r, ls0l, lsi, lsr, lsl, Option.map_some, w2, lg0, lgi, lgr, lgl, w35, kM0, rM0, kM1, nM1, w0, w1, w11, w75]
      refine R_takesNumber (a := 0) hτ (by decide) hmr hT2 (fun d1 d2 d3 σ3 hz3 hT4 => ?_) (fun d => ?_)
      · rw [cif_y ⟨d1, d3⟩] at er
        rw [er] at hk
        have e13 : σ3.1 1 = σ.1 1 := by rw [Tz_k (by decide) hz3, e1]
        simp only [wL0, wLc, true_and, w54_3, q40, q41, q42, q43, q44, Option.toList_some, Option.toList_none, List.cons_append, List.nil_append, w4, ls00, ls0i, ls0r, ls0l, lsi, lsr, lsl, Option.map_some, w2, lg0, lgi, lgr, lgl, w35, kM0, rM0, kM1, nM1, w0, w1, w11, w75, e4]
        refine b3N (lt0 (by omega)) ?_
        refine PW_blk okM_readsItem 11 rfl SpM_ok ?_
        simp only [wL0, wLc, true_and, w1, lg0, lgi, lgr, lgl, w71]
        refine PW_blk okM_readsItem 12 rfl SpM_ok ?_
        simp only [wL0, wLc, true_and, w40, w1, lg0, lgi, lgr, lgl, w74, kM1, nM1, eq_true hv4, cl4, si_is]
        rw [e13]
        refine b2N (lt0 (by omega)) ?_
        refine PW_blk okM_readsItem 13 rfl SpM_ok ?_
        simp only [wL0, wLc, true_and, w0, w70]
        refine PW_blk okM_readsItem 15 rfl SpM_ok ?_
        simp only [wL0, w85]
        refine ⟨Or.inr trivial, hk _ ?_ (Tkn_sr hT4)⟩
        exact Tz_sr (by decide) (Tz_t hz2 hz3)
      · rw [cif_n (fun z => d ⟨z.1, Nat.zero_le _, z.2⟩)] at er
        rw [er] at hk
        simp only [wL0, wLc, true_and, w54_3, q40, q41, q42, q43, q44, Option.toList_some, Option.toList_none, List.cons_append, List.nil_append, w4, ls00, ls0i, ls0r, ls0l, lsi, lsr, lsl, Option.map_some, w2, lg0, lgi, lgr, lgl, w35, kM0, rM0, kM1, nM1, w0, w1, w11, w75, e4]
        refine b3Y (by decide) ?_
        refine PW_blk okM_readsItem 10 rfl SpM_ok ?_
        simp only [wL0, wLc, true_and, w2, lg0, lgi, lgr, lgl, w35, kM0, rM0, kM1, nM1, w0, w1, w11, w39, tn4, vi4_120, w70, e4, eq_true hv4, cl4]
        refine PW_blk okM_readsItem 12 rfl SpM_ok ?_
        simp only [wL0, wLc, true_and, w40, w1, lg0, lgi, lgr, lgl, w74, kM1, nM1, eq_true hv4, cl4, si_is]
        rw [fa_upd_same rfl, sr_self]
        refine b2Y (by decide) ?_
        refine PW_blk okM_readsItem 14 rfl SpM_ok ?_
        simp only [wL0, wLc, true_and, w0, w71]
        refine PW_blk okM_readsItem 15 rfl SpM_ok ?_
        simp only [wL0, w85]
        refine ⟨Or.inl trivial, hk _ ?_ hT2⟩
        show Tz (sr σ 1 (σ.1 1)) σ2
        rw [sr_self]
        exact hz2
    rcases (show w = 0 ∨ w = 1 ∨ w = 2 by omega) with rfl | rfl | rfl
    · refine dN rfl ?_
      refine PW_blk okM_readsItem 5 rfl SpM_ok ?_
      simp only [wL0, wLc, true_and, w0, w70]
      exact fin
    · refine b3N (by decide) ?_
      refine PW_blk okM_readsItem 6 rfl SpM_ok ?_
      simp only [wL0, wLc, true_and, w1, lg0, lgi, lgr, lgl, w0, w79]
      refine b3Y rfl ?_
      refine PW_blk okM_readsItem 7 rfl SpM_ok ?_
      simp only [wL0, wLc, true_and, w0, w70]
      exact fin
    · refine b3N (by decide) ?_
      refine PW_blk okM_readsItem 6 rfl SpM_ok ?_
      simp only [wL0, wLc, true_and, w1, lg0, lgi, lgr, lgl, w0, w79]
      refine b3N (by decide) ?_
      refine PW_blk okM_readsItem 8 rfl SpM_ok ?_
      simp only [wL0, wLc, true_and, w2, lg0, lgi, lgr, lgl, w54_1, q40, q41, q42, q43, q44, Option.toList_some, Option.toList_none, List.cons_append, List.nil_append, sp_allLocks, w71, e1, hI.1.1]
      rw [alF_n _ (by omega)]
      exact fin
theorem R_text {τ : Nat} (hτ : τ ≤ 120) (hI : Inv (σ.1 1)) (hL : LtI σ) (h11 : σ.1 0 11 = nI τ) (h1 : ∀ n S σ', rdT (σ.1 8) τ 121 0 (σ.1 1) (tok (σ.1 8) τ 0) = (n, S) → ¬ n < 0 → Tz (sr (sr (sr σ 3 (fa_fill (σ.1 1) (σ.1 3) 120)) 0 (upd (σ.1 0) 11 0)) 1 S) σ' → K (some (.int n)) σ') (h2 : ∀ n S σ', rdT (σ.1 8) τ 121 0 (σ.1 1) (tok (σ.1 8) τ 0) = (n, S) → n < 0 → Tz (sr (sr (sr σ 3 (fa_fill (σ.1 1) (σ.1 3) 120)) 0 (upd (σ.1 0) 11 0)) 1 (fa_fill (σ.1 1) S 120)) σ' → K (some (.int n)) σ') : Rn 1 ev mM_text [.ref 0] σ K := by
  refine Rn_V (by decide) rc6 rfl rfl ?_
  refine PW_blk okM_text 0 rfl SpM_ok ?_
  simp only [wL0, wLc, true_and, w2, lg0, lgi, lgr, lgl, w54_1, q40, q41, q42, q43, q44, Option.toList_some, Option.toList_none, List.cons_append, List.nil_append, w0, w36, kM0, w4, ls00, ls0i, ls0r, ls0l, lsi, lsr, lsl, Option.map_some, w71]
  refine R_setsAside ?_
  simp only [wL0, wLc, true_and, w2, lg0, lgi, lgr, lgl, w54_1, q40, q41, q42, q43, q44, Option.toList_some, Option.toList_none, List.cons_append, List.nil_append, w0, w36, kM0, w4, ls00, ls0i, ls0r, ls0l, lsi, lsr, lsl, Option.map_some, w71]
  generalize hρ : sr σ 3 (fa_fill (σ.1 1) (σ.1 3) 120) = ρ at *
  have r1 : ρ.1 1 = σ.1 1 := by rw [← hρ]; exact n3_1
  have r0 : ρ.1 0 = σ.1 0 := by rw [← hρ]; exact n3_0
  have r3 : ρ.1 3 = fa_fill (σ.1 1) (σ.1 3) 120 := by rw [← hρ]; exact sr1
  have r8 : ρ.1 8 = σ.1 8 := by rw [← hρ]; exact n3_8
  have rL : LtI ρ := by rw [← hρ]; exact hL
  generalize hT : σ.1 8 = T at *
  generalize hS0 : σ.1 1 = S0 at *
  refine R_nextToken (p := 0) (τ := τ) ?_ ?_ hτ (Nat.zero_le _) (fun v hv => ?_)
  · rw [si_is, sr1, updS]; rfl
  · rw [si_is, sr1, updN (by decide), r0]; exact h11
  have e8 : (si ρ 0 14 0).1 8 = T := by rw [si_is, n0_8]; exact r8
  rw [e8] at hv ⊢
  have hz0 : Tz ρ (tkS (si ρ 0 14 0) (nI (tok T τ 0).1) (nI (tok T τ 0).2.1) (nI (tok T τ 0).2.2.1) v) := Tz_t Tz_14 ⟨_, _, _, _, rfl⟩
  have hT0 : Tkn T τ (tok T τ 0) (tkS (si ρ 0 14 0) (nI (tok T τ 0).1) (nI (tok T τ 0).2.1) (nI (tok T τ 0).2.2.1) v) := ⟨⟨by rw [ts_8]; exact e8, by rw [ts11, si_is, sr1, updN (by decide), r0]; exact h11⟩, ⟨0, Nat.zero_le _, rfl⟩, ts12, ts13, ts14, by rw [ts15]; exact hv⟩
  generalize tkS (si ρ 0 14 0) (nI (tok T τ 0).1) (nI (tok T τ 0).2.1) (nI (tok T τ 0).2.2.1) v = σ1 at *
  have z1 : σ1.1 1 = S0 := by rw [Tz_k (by decide) hz0, r1]
  -- the end
  have fin : ∀ (g0 g n : Int32) S σ2, (g = 0 ∨ g = 1) → Tz (sr ρ 1 S) σ2 → (g = 0 → ∃ b, b < 121 ∧ σ2.1 0 13 = nI b ∧ rdT T τ 121 0 S0 (tok T τ 0) = (-1 - nI b, S)) → (g = 1 → ¬ n < 0 ∧ rdT T τ 121 0 S0 (tok T τ 0) = (n, S)) → PW 1 ev mM_text 63 [.ref 0, .int n, .int g0] [.int g] σ2 K := by
    intro g0 g n S σ2 hg hz ha hb
    have hz11 := Tz_11s (x := 0) hz
    rw [n1_0, r0, sr_comm (k := 1) (k' := 0) (by decide)] at hz11
    refine PW_blk okM_text 8 rfl SpM_ok ?_
    simp only [wL0, wLc, true_and, w4, ls00, ls0i, ls0r, ls0l, lsi, lsr, lsl, Option.map_some, w2, lg0, lgi, lgr, lgl, w0, w36, kM0, w1, w73]
    rcases hg with rfl | rfl
    · refine dN rfl ?_
      obtain ⟨b, hb1, hb2, hb3⟩ := ha rfl
      refine PW_blk okM_text 9 rfl SpM_ok ?_
      simp only [wL0, wLc, true_and, w2, lg0, lgi, lgr, lgl, w54_1, q40, q41, q42, q43, q44, Option.toList_some, Option.toList_none, List.cons_append, List.nil_append, w0, w33, kM0, w12, w84]
      refine R_laysBack ?_
      have e1 : (si σ2 0 11 0).1 1 = S := by rw [Tz_k (by decide) hz11, sr1]
      have e3 : (si σ2 0 11 0).1 3 = fa_fill S0 (σ.1 3) 120 := by rw [Tz_k (by decide) hz11, n1_3, n0_3, r3]
      have e13 : (si σ2 0 11 0).1 0 13 = nI b := by rw [si_is, sr1, updN (by decide)]; exact hb2
      simp only [wL0, wLc, true_and, w2, lg0, lgi, lgr, lgl, w54_1, q40, q41, q42, q43, q44, Option.toList_some, Option.toList_none, List.cons_append, List.nil_append, w0, w33, kM0, w12, w84, n1_0, e13]
      rw [e1, e3, fill2]
      refine h2 _ S _ hb3 (neg_b b hb1) ?_
      have := Tz_sr (k := 1) (r := fa_fill S0 S 120) (by decide) hz11
      rw [sr_sr] at this
      exact this
    · refine dY rfl ?_
      refine PW_blk okM_text 10 rfl SpM_ok ?_
      simp only [wL0, wLc, true_and, w1, lg0, lgi, lgr, lgl, w84]
      obtain ⟨hb1, hb2⟩ := hb rfl
      exact h1 _ S _ hb2 hb1 hz11
  have loop : ∀ f n S tk, Inv S → tkv T τ tk → n ≤ tk.2.1 → n + f = 121 → rdT T τ 121 0 S0 (tok T τ 0) = rdT T τ f n S tk → ∀ σ', Tz (sr ρ 1 (rdI T τ S tk).2.1) σ' → Tkn T τ (rdI T τ S tk).2.2 σ' → PW 1 ev mM_text 20 [.ref 0, .int (nI (n + 1)), .int (if (rdI T τ S tk).1 = true then 1 else 0)] [] σ' K := by
    intro f
    induction f with
    | zero =>
      intro n S tk _ hv hn hf
      obtain ⟨w1, w2⟩ := tkw_v hv
      omega
    | succ f ih =>
      intro n S tk hIS hv hn hf he σ' hz hT2
      have hw := tkw_v hv
      have hm := rdI_mono (T := T) (S := S) hw
      have hIr := rdI_ok (T := T) (τ := τ) (tk := tk) hIS
      have e : rdT T τ (f + 1) n S tk = if (rdI T τ S tk).1 = true ∧ (rdI T τ S tk).2.2.1 = 3 then rdT T τ f (n + 1) (rdI T τ S tk).2.1 (tok T τ (rdI T τ S tk).2.2.2.2.1) else if (rdI T τ S tk).1 = true ∧ (rdI T τ S tk).2.2.1 = 0 then (nI (n + 1), (rdI T τ S tk).2.1) else (-1 - nI (rdI T τ S tk).2.2.2.1, (rdI T τ S tk).2.1) := rfl
      rw [e] at he
      clear e
      generalize rdI T τ S tk = r at *
      obtain ⟨⟨h8, h11'⟩, htv, h12, h13, h14, hov⟩ := hT2
      have hw2 := tkw_v htv
      have := hw2.1
      have := hw2.2
      have ht4 : r.2.2.1 ≤ 4 := by
        obtain ⟨p, hp, ee⟩ := htv
        rw [ee]
        exact (tok_ok hp).2.2.2.2.1
      have bad : ¬ (r.1 = true ∧ r.2.2.1 = 3) → ¬ (r.1 = true ∧ r.2.2.1 = 0) → ∀ g : Int32, PW 1 ev mM_text 62 [.ref 0, .int (nI (n + 1)), .int g] [] σ' K := by
        intro b1 b2 g
        rw [if_neg b1, if_neg b2] at he
        refine PW_blk okM_text 7 rfl SpM_ok ?_
        simp only [wL0, wLc, true_and, w0, w71]
        exact fin g 0 (nI (n + 1)) r.2.1 σ' (Or.inl rfl) hz (fun _ => ⟨r.2.2.2.1, by omega, h13, he⟩) (fun z => absurd z (by decide))
      by_cases c0 : r.1 = true
      rotate_left
      · rw [if_neg c0]
        refine PW_blk okM_text 1 rfl SpM_ok ?_
        simp only [wL0, wLc, true_and, w1, lg0, lgi, lgr, lgl, w72]
        refine b2Y trivial ?_
        refine PW_blk okM_text 4 rfl SpM_ok ?_
        simp only [wL0, wLc, true_and, w1, lg0, lgi, lgr, lgl, w72]
        refine b2Y trivial ?_
        exact bad (fun z => c0 z.1) (fun z => c0 z.1) _
      rw [if_pos c0]
      refine PW_blk okM_text 1 rfl SpM_ok ?_
      simp only [wL0, wLc, true_and, w1, lg0, lgi, lgr, lgl, w72]
      refine b2N (by decide) ?_
      refine PW_blk okM_text 2 rfl SpM_ok ?_
      simp only [wL0, wLc, true_and, w2, lg0, lgi, lgr, lgl, w33, kM0, w0, w79, h12]
      rw [show (3 : Int32) = nI 3 from rfl, nI_eq_iff (by omega) (by decide)]
      by_cases c3 : r.2.2.1 = 3
      · rw [if_pos ⟨c0, c3⟩] at he
        refine b3Y c3 ?_
        refine PW_blk okM_text 3 rfl SpM_ok ?_
        simp only [wL0, wLc, true_and, w2, lg0, lgi, lgr, lgl, w54_1, q40, q41, q42, q43, q44, Option.toList_some, Option.toList_none, List.cons_append, List.nil_append, w4, ls00, ls0i, ls0r, ls0l, lsi, lsr, lsl, Option.map_some, w7, w70]
        refine R_next hτ ⟨⟨h8, h11'⟩, htv, h12, h13, h14, hov⟩ (fun σ3 hz3 hT3 => ?_)
        simp only [wL0, wLc, true_and, w2, lg0, lgi, lgr, lgl, w54_1, q40, q41, q42, q43, q44, Option.toList_some, Option.toList_none, List.cons_append, List.nil_append, w4, ls00, ls0i, ls0r, ls0l, lsi, lsr, lsl, Option.map_some, w7, w70]
        have hzz := Tz_t hz hz3
        have e31 : σ3.1 1 = r.2.1 := by rw [Tz_k (by decide) hzz, sr1]
        refine R_readsItem hτ (by rw [e31]; exact hIr) (LtI_z hzz (LtI_sr rL)) hT3 (fun σ4 hz4 hT4 => ?_)
        rw [e31] at hz4 hT4 ⊢
        simp only [wL0, wLc, true_and, w2, lg0, lgi, lgr, lgl, w54_1, q40, q41, q42, q43, q44, Option.toList_some, Option.toList_none, List.cons_append, List.nil_append, w4, ls00, ls0i, ls0r, ls0l, lsi, lsr, lsl, Option.map_some, w7, w70]
        rw [show (1 : Int32) = nI 1 from rfl, nI_add]
        have hb3 : r.2.2.2.1 < r.2.2.2.2.1 := by
          obtain ⟨p, hp, ee⟩ := htv
          rw [ee] at c3 ⊢
          exact (tok_ok hp).2.2.2.2.2.1 c3
        have hnx := tkw_n (T := T) hw2
        refine ih (n + 1) r.2.1 _ hIr hT3.2.1 (by have := hnx.2; omega) (by omega) he σ4 ?_ hT4
        have := Tz_t (Tz_sr (k := 1) (r := (rdI T τ r.2.1 (tok T τ r.2.2.2.2.1)).2.1) (by decide) hzz) hz4
        rw [sr_sr] at this
        exact this
      refine b3N c3 ?_
      refine PW_blk okM_text 4 rfl SpM_ok ?_
      simp only [wL0, wLc, true_and, w1, lg0, lgi, lgr, lgl, w72]
      refine b2N (by decide) ?_
      refine PW_blk okM_text 5 rfl SpM_ok ?_
      simp only [wL0, wLc, true_and, w2, lg0, lgi, lgr, lgl, w33, kM0, w73, h12]
      rw [nI_z (by omega)]
      by_cases c1 : r.2.2.1 = 0
      · refine b3Y c1 ?_
        rw [if_neg (fun z => c3 z.2), if_pos ⟨c0, c1⟩] at he
        refine PW_blk okM_text 6 rfl SpM_ok ?_
        simp only [wL0, wLc, true_and, w0, w70]
        exact fin _ 1 (nI (n + 1)) r.2.1 σ' (Or.inr rfl) hz (fun z => absurd z (by decide)) (fun _ => ⟨lt0 (by omega), he⟩)
      · refine b3N c1 ?_
        exact bad (fun z => c3 z.2) (fun z => c1 z.2) _
  refine R_readsItem hτ (by rw [z1]; exact hI) (LtI_z hz0 rL) hT0 (fun σ4 hz4 hT4 => ?_)
  rw [z1] at hz4 hT4 ⊢
  simp only [wL0, wLc, true_and, w2, lg0, lgi, lgr, lgl, w54_1, q40, q41, q42, q43, q44, Option.toList_some, Option.toList_none, List.cons_append, List.nil_append, w0, w36, kM0, w4, ls00, ls0i, ls0r, ls0l, lsi, lsr, lsl, Option.map_some, w71]
  refine loop 121 0 S0 _ hI hT0.2.1 (Nat.zero_le _) rfl rfl σ4 ?_ hT4
  have := Tz_t (Tz_sr (k := 1) (r := (rdI T τ S0 (tok T τ 0)).2.1) (by decide) hz0) hz4
  exact this
end MU
