/-! the class reads a text -/
theorem rdO_0 {T : Nat → Int32} {τ k o1 : Nat} : ∀ f i S tk, (rdO T τ k o1 f i S tk).2.1 0 = S 0
  | 0, i, S, tk => rfl
  | f + 1, i, S, tk => by
    unfold rdO
    by_cases c1 : tk.1 = 1 ∧ isW T tk.2.1 tk.2.2.1 (wO i)
    · rw [cif_y c1]
      by_cases c2 : (tok T τ tk.2.2.1).1 = 2 ∧ leastN (fldO i) ≤ (tok T τ tk.2.2.1).2.2.2 ∧ (tok T τ tk.2.2.1).2.2.2 ≤ mostO S o1 (fldO i)
      · rw [cif_y c2, rdO_0 f]
        exact updN (by unfold tr; omega)
      · rw [cif_n c2]
    · rw [cif_n c1]
      exact rdO_0 f (i + 1) S tk
theorem rdI_0 {T : Nat → Int32} {τ : Nat} {S : Nat → Int32} {tk : Tk} : (rdI T τ S tk).2.1 0 = S 0 := by
  unfold rdI
  cases e : whW wK T tk 7 with
  | some kd =>
    dsimp only
    unfold rdL
    by_cases c : nv S 3 = 10
    · rw [if_pos c]
    · rw [if_neg c, rdO_0]
      unfold cmS tr
      rw [if_neg (by decide), if_neg (by omega), if_neg (by omega), if_neg (by omega), if_neg (by omega)]
  | none =>
    dsimp only
    cases e2 : whW wR T tk 3 with
    | none => rfl
    | some w =>
      dsimp only
      by_cases c : (tok T τ tk.2.2.1).1 = 2 ∧ (tok T τ tk.2.2.1).2.2.2 ≤ mostR S w
      · rw [cif_y c]; exact updN (by omega)
      · rw [cif_n c]
theorem rdT_ok {T : Nat → Int32} {τ : Nat} : ∀ f n S tk, Inv S → Inv (rdT T τ f n S tk).2 ∧ (rdT T τ f n S tk).2 0 = S 0
  | 0, n, S, tk, hI => ⟨hI, rfl⟩
  | f + 1, n, S, tk, hI => by
    have hr := rdI_ok (T := T) (τ := τ) (tk := tk) hI
    have h0 := rdI_0 (T := T) (τ := τ) (S := S) (tk := tk)
    unfold rdT
    dsimp only
    by_cases c1 : (rdI T τ S tk).1 = true ∧ (rdI T τ S tk).2.2.1 = 3
    · rw [if_pos c1]
      have ih := rdT_ok (T := T) (τ := τ) f (n + 1) (rdI T τ S tk).2.1 (tok T τ (rdI T τ S tk).2.2.2.2.1) hr
      exact ⟨ih.1, ih.2.trans h0⟩
    · rw [if_neg c1]
      by_cases c2 : (rdI T τ S tk).1 = true ∧ (rdI T τ S tk).2.2.1 = 0
      · rw [if_pos c2]; exact ⟨hr, h0⟩
      · rw [if_neg c2]; exact ⟨hr, h0⟩
theorem tkv_end {T : Nat → Int32} {τ : Nat} {tk : Tk} (h : tkv T τ tk) (hb : τ ≤ tk.2.1) : tk.1 = 0 := by
  obtain ⟨p, hp, e⟩ := h
  subst e
  unfold tok tokB at *
  by_cases c : τ ≤ run isSp T τ p
  · rw [if_pos c]
  · exfalso
    rw [if_neg c] at hb
    apply c
    by_cases c1 : isLt (T (run isSp T τ p)) = true
    · rw [if_pos c1] at hb; exact hb
    rw [if_neg c1] at hb
    by_cases c2 : isDg (T (run isSp T τ p)) = true
    · rw [if_pos c2] at hb; exact hb
    · rw [if_neg c2] at hb; exact hb
/-- nothing but chest, draft and the tape's own cell has changed -/
def Xf (σ σ' : St2) : Prop := ∀ i, ¬ (1 ≤ i ∧ i ≤ 14) → ¬ (29 ≤ i ∧ i ≤ 42) → i ≠ 51 → σ'.1 i = σ.1 i
section VX
variable {ev : EV} {σ : St2} {K : PO} {S : Nat → Int32}
theorem X_readItem {T : Nat → Int32} {τ : Nat} {tk : Tk} (hτ : τ ≤ 120) (hX : XC σ 29 S) (hI : Inv S) (hR : XR σ T τ tk) (hk : ∀ σ' r, r = rdI T τ S tk → Df σ σ' → XC σ' 29 r.2.1 → XR σ' T τ r.2.2 → K (some (.int (if r.1 = true then 1 else 0))) σ') : Rn 0 ev mT_readItem [.ref 51, .ref 29] σ K := by
  have hw := tkw_v hR.2.2
  have ht4 := tkv_4 hR.2.2
  refine Rn_V (by decide) rc3 rfl rfl ?_
  refine PW_blk okT_readItem 0 rfl SpX_ok ?_
  simp only [wL0, wLc, true_and, w0, w4, ls00, ls0i, ls0r, ls0l, lsi, lsr, lsl, Option.map_some, w71]
  have key := lp_up (n := 7) (P := fun kd => (∀ q, q < kd → ¬ (tk.1 = 1 ∧ isW T tk.2.1 tk.2.2.1 (wK q))) → PW 0 ev mT_readItem 2 [.ref 51, .ref 29, .int (nI kd)] [] σ K) ?_ ?_ 0 (by decide) (fun q h => absurd h (Nat.not_lt_zero q))
  · exact key
  · intro hno
    have eK := whW_n (wd := wK) (T := T) (tk := tk) 7 hno
    refine PW_blk okT_readItem 1 rfl SpX_ok ?_
    simp only [wL0, wLc, true_and, w1, lg0, lgi, lgr, lgl, w0, w81]
    refine b3N (by decide) ?_
    refine PW_blk okT_readItem 5 rfl SpX_ok ?_
    simp only [wL0, wLc, true_and, w0, w4, ls00, ls0i, ls0r, ls0l, lsi, lsr, lsl, Option.map_some, w71]
    have k2 := lp_up (n := 3) (P := fun w => (∀ q, q < w → ¬ (tk.1 = 1 ∧ isW T tk.2.1 tk.2.2.1 (wR q))) → PW 0 ev mT_readItem 34 [.ref 51, .ref 29, .int (nI w)] [] σ K) ?_ ?_ 0 (by decide) (fun q h => absurd h (Nat.not_lt_zero q))
    · exact k2
    · intro hno2
      have eR := whW_n (wd := wR) (T := T) (tk := tk) 3 hno2
      have er : rdI T τ S tk = (false, S, tk) := by unfold rdI; rw [eK]; dsimp only; rw [eR]
      refine PW_blk okT_readItem 6 rfl SpX_ok ?_
      simp only [wL0, wLc, true_and, w1, lg0, lgi, lgr, lgl, w0, w82]
      refine b2Y (by decide) ?_
      refine PW_blk okT_readItem 10 rfl SpX_ok ?_
      simp only [wL0, wLc, true_and, w0, w85]
      exact ⟨Or.inl trivial, hk σ _ er.symm Df_r hX hR⟩
    · intro w hw3 ih hno2
      refine PW_blk okT_readItem 6 rfl SpX_ok ?_
      simp only [wL0, wLc, true_and, w1, lg0, lgi, lgr, lgl, w0, w82]
      refine b2N (nI_nlt (a := 2) (b := w) (by omega) (by decide)) ?_
      refine PW_blk okT_readItem 7 rfl SpX_ok ?_
      simp only [wL0, wLc, true_and, w2, lg0, lgi, lgr, lgl, w1, w55_1, q40, q41, q42, q43, q44, Option.toList_some, Option.toList_none, List.cons_append, List.nil_append, w54_2, w72]
      refine X_ruleWord hw3 ?_
      simp only [wL0, wLc, true_and, w2, lg0, lgi, lgr, lgl, w1, w55_1, q40, q41, q42, q43, q44, Option.toList_some, Option.toList_none, List.cons_append, List.nil_append, w54_2, w72]
      refine X_isWord (i := 7 + w) (by omega) hτ hR.1 hR.2.1 hw ht4 (fun c1 => ?_) (fun c1 => ?_)
      · rw [rdx_w w hw3] at c1
        have eR := whW_y (wd := wR) (T := T) (tk := tk) 3 hw3 (fun v hv => (wfR v hv).2.2.1) (fun v v' a b => wuR v a v' b) c1.1 c1.2
        have er : rdI T τ S tk = cif ((tok T τ tk.2.2.1).1 = 2 ∧ (tok T τ tk.2.2.1).2.2.2 ≤ mostR S w) (true, upd S (4 + w) (nI (tok T τ tk.2.2.1).2.2.2), tok T τ (tok T τ tk.2.2.1).2.2.1) (false, S, tok T τ tk.2.2.1) := by unfold rdI; rw [eK]; dsimp only; rw [eR]
        simp only [wL0, wLc, true_and, w2, lg0, lgi, lgr, lgl, w1, w55_1, q40, q41, q42, q43, q44, Option.toList_some, Option.toList_none, List.cons_append, List.nil_append, w54_2, w72]
        refine b2N (by decide) ?_
        refine PW_blk okT_readItem 8 rfl SpX_ok ?_
        simp only [wL0, wLc, true_and, w2, lg0, lgi, lgr, lgl, w1, w54_3, q40, q41, q42, q43, q44, Option.toList_some, Option.toList_none, List.cons_append, List.nil_append, w85]
        refine X_readRule hτ hX hI hR hw3 (fun σ' r hr hD hX' hR' => ?_)
        simp only [wL0, wLc, true_and, w2, lg0, lgi, lgr, lgl, w1, w54_3, q40, q41, q42, q43, q44, Option.toList_some, Option.toList_none, List.cons_append, List.nil_append, w85]
        exact ⟨b01.symm.symm, hk σ' r (hr.trans er.symm) hD hX' hR'⟩
      · rw [rdx_w w hw3] at c1
        simp only [wL0, wLc, true_and, w2, lg0, lgi, lgr, lgl, w1, w55_1, q40, q41, q42, q43, q44, Option.toList_some, Option.toList_none, List.cons_append, List.nil_append, w54_2, w72]
        refine b2Y trivial ?_
        refine PW_blk okT_readItem 9 rfl SpX_ok ?_
        simp only [wL0, wLc, true_and, w7, lg0, lgi, lgr, lgl, ls00, ls0i, ls0r, ls0l, lsi, lsr, lsl, Option.map_some, w70]
        rw [show (1 : Int32) = nI 1 from rfl, nI_add]
        refine ih (fun q hq => ?_)
        by_cases e : q = w
        · subst e; exact c1
        · exact hno2 q (by omega)
  · intro kd hk7 ih hno
    obtain ⟨x1', x2'⟩ := kdx_w kd hk7
    refine PW_blk okT_readItem 1 rfl SpX_ok ?_
    simp only [wL0, wLc, true_and, w1, lg0, lgi, lgr, lgl, w0, w81]
    refine b3Y (nI_lt hk7 (by decide)) ?_
    refine PW_blk okT_readItem 2 rfl SpX_ok ?_
    simp only [wL0, wLc, true_and, w2, lg0, lgi, lgr, lgl, w1, w55_1, q40, q41, q42, q43, q44, Option.toList_some, Option.toList_none, List.cons_append, List.nil_append, w54_2, w72]
    refine X_kindWord hk7 ?_
    simp only [wL0, wLc, true_and, w2, lg0, lgi, lgr, lgl, w1, w55_1, q40, q41, q42, q43, q44, Option.toList_some, Option.toList_none, List.cons_append, List.nil_append, w54_2, w72]
    refine X_isWord (i := kdx kd) x1' hτ hR.1 hR.2.1 hw ht4 (fun c1 => ?_) (fun c1 => ?_)
    · rw [x2'] at c1
      have eK := whW_y (wd := wK) (T := T) (tk := tk) 7 hk7 (fun v hv => (wfK v hv).2.2.1) (fun v v' a b => wuK v a v' b) c1.1 c1.2
      have er : rdI T τ S tk = rdL T τ S tk kd := by unfold rdI; rw [eK]
      simp only [wL0, wLc, true_and, w2, lg0, lgi, lgr, lgl, w1, w55_1, q40, q41, q42, q43, q44, Option.toList_some, Option.toList_none, List.cons_append, List.nil_append, w54_2, w72]
      refine b2N (by decide) ?_
      refine PW_blk okT_readItem 3 rfl SpX_ok ?_
      simp only [wL0, wLc, true_and, w2, lg0, lgi, lgr, lgl, w1, w54_3, q40, q41, q42, q43, q44, Option.toList_some, Option.toList_none, List.cons_append, List.nil_append, w85]
      refine X_readLock hτ hX hI hR (show kd ≤ 6 by omega) (fun σ' r hr hD hX' hR' => ?_)
      simp only [wL0, wLc, true_and, w2, lg0, lgi, lgr, lgl, w1, w54_3, q40, q41, q42, q43, q44, Option.toList_some, Option.toList_none, List.cons_append, List.nil_append, w85]
      exact ⟨b01.symm.symm, hk σ' r (hr.trans er.symm) hD hX' hR'⟩
    · rw [x2'] at c1
      simp only [wL0, wLc, true_and, w2, lg0, lgi, lgr, lgl, w1, w55_1, q40, q41, q42, q43, q44, Option.toList_some, Option.toList_none, List.cons_append, List.nil_append, w54_2, w72]
      refine b2Y trivial ?_
      refine PW_blk okT_readItem 4 rfl SpX_ok ?_
      simp only [wL0, wLc, true_and, w7, lg0, lgi, lgr, lgl, ls00, ls0i, ls0r, ls0l, lsi, lsr, lsl, Option.map_some, w70]
      rw [show (1 : Int32) = nI 1 from rfl, nI_add]
      refine ih (fun q hq => ?_)
      by_cases e : q = kd
      · subst e; exact c1
      · exact hno q (by omega)
theorem X_read {T : Nat → Int32} {τ : Nat} (hτ : τ ≤ 120) (hX : XC σ 29 S) (hI : Inv S) (hT : XT σ T τ) (hk : ∀ σ' r, r = rdT T τ 121 0 S (tok T τ 0) → Df σ σ' → XC σ' 29 r.2 → XT σ' T τ → K (some (.int r.1)) σ') : Rn 0 ev mT_read [.ref 51, .ref 29] σ K := by
  refine Rn_V (by decide) rc3 rfl rfl ?_
  refine PW_blk okT_read 0 rfl SpX_ok ?_
  simp only [wL0, wLc, true_and, w2, lg0, lgi, lgr, lgl, w0, w36, kX51, w54_1, q40, q41, q42, q43, q44, Option.toList_some, Option.toList_none, List.cons_append, List.nil_append, w4, ls00, ls0i, ls0r, ls0l, lsi, lsr, lsl, Option.map_some, w71, si_is]
  refine X_nextToken (T := T) (τ := τ) (p := 0) hτ (by rw [sr1n (by decide)]; exact hT.2) (by rw [sr1, updN (by decide)]; exact hT.1) (by rw [sr1, updS]; rfl) (Nat.zero_le _) (fun q hq => ?_)
  rw [sr_sr]
  have hX1 := X_q (q := q) hX
  have hR1 : XR (sr σ 51 q) T τ (tok T τ 0) := ⟨by rw [sr1n (by decide)]; exact hT.2, by rw [sr1]; exact hq, ⟨0, Nat.zero_le _, rfl⟩⟩
  have hD1 : Df σ (sr σ 51 q) := Df_q Df_r
  simp only [wL0, wLc, true_and, w2, lg0, lgi, lgr, lgl, w0, w36, kX51, w54_1, q40, q41, q42, q43, q44, Option.toList_some, Option.toList_none, List.cons_append, List.nil_append, w4, ls00, ls0i, ls0r, ls0l, lsi, lsr, lsl, Option.map_some, w71, sr_sr]
  generalize sr σ 51 q = σ1 at *
  generalize hRR : rdT T τ 121 0 S (tok T τ 0) = R at hk
  have xt : ∀ σ' tk, XR σ' T τ tk → XT σ' T τ := fun σ' tk h => ⟨h.2.1.1, h.1⟩
  have key : ∀ f n S' tk σ', n + f = 121 → Inv S' → n ≤ tk.2.1 → Df σ σ' → XC σ' 29 S' → XR σ' T τ tk → R = rdT T τ f n S' tk → PW 0 ev mT_read 11 [.ref 51, .ref 29, .int (nI (n + 1))] [] σ' K := by
    intro f
    induction f with
    | zero =>
      intro n S' tk σ' hf _ hn _ _ hR' _
      have := (tkw_v hR'.2.2).1
      have := (tkw_v hR'.2.2).2
      omega
    | succ f ih =>
      intro n S' tk σ' hf hI' hn hD hX' hR' he
      have hww := tkw_v hR'.2.2
      have hw1 := hww.1
      have hw2 := hww.2
      have hm := rdI_mono (T := T) (S := S') hww
      have hIr := rdI_ok (T := T) (τ := τ) (tk := tk) hI'
      have e : rdT T τ (f + 1) n S' tk = if (rdI T τ S' tk).1 = true ∧ (rdI T τ S' tk).2.2.1 = 3 then rdT T τ f (n + 1) (rdI T τ S' tk).2.1 (tok T τ (rdI T τ S' tk).2.2.2.2.1) else if (rdI T τ S' tk).1 = true ∧ (rdI T τ S' tk).2.2.1 = 0 then (nI (n + 1), (rdI T τ S' tk).2.1) else (-1 - nI (rdI T τ S' tk).2.2.2.1, (rdI T τ S' tk).2.1) := rfl
      rw [e] at he
      clear e
      refine PW_blk okT_read 1 rfl SpX_ok ?_
      simp only [wL0, wLc, true_and, w1, lg0, lgi, lgr, lgl, w0, w82]
      rw [show (120 : Int32) = nI 120 from rfl, nI_lt_iff (by decide) (by omega)]
      by_cases c0 : 120 < n + 1
      · refine b2Y c0 ?_
        have ht0 := tkv_end hR'.2.2 (by omega)
        have er : rdI T τ S' tk = (false, S', tk) := by
          unfold rdI
          rw [whW_n (wd := wK) 7 (fun w _ z => by rw [ht0] at z; exact absurd z.1 (by decide)), whW_n (wd := wR) 3 (fun w _ z => by rw [ht0] at z; exact absurd z.1 (by decide))]
        rw [er, if_neg (fun z => absurd z.1 (show ¬ false = true by decide)), if_neg (fun z => absurd z.1 (show ¬ false = true by decide))] at he
        refine PW_blk okT_read 9 rfl SpX_ok ?_
        simp only [wL0, wLc, true_and, w0, w2, lg0, lgi, lgr, lgl, w33, kX51, w12, w84, hR'.2.1.2.1]
        exact hk σ' (-1 - nI tk.2.1, S') he.symm hD hX' (xt _ _ hR')
      refine b2N c0 ?_
      refine PW_blk okT_read 2 rfl SpX_ok ?_
      simp only [wL0, wLc, true_and, w2, lg0, lgi, lgr, lgl, w54_2, q40, q41, q42, q43, q44, Option.toList_some, Option.toList_none, List.cons_append, List.nil_append, w73]
      refine X_readItem hτ hX' hI' hR' (fun σ2 r hr hD2 hX2 hR2 => ?_)
      rw [← hr] at he hm hIr
      have hD3 := Df_t hD hD2
      have ht4 := tkv_4 hR2.2.2
      have hk2 := hR2.2.1
      simp only [wL0, wLc, true_and, w2, lg0, lgi, lgr, lgl, w54_2, q40, q41, q42, q43, q44, Option.toList_some, Option.toList_none, List.cons_append, List.nil_append, w73]
      by_cases c1 : r.1 = true
      rotate_left
      · rw [if_neg (fun z => c1 z.1), if_neg (fun z => c1 z.1)] at he
        refine dN1 c1 ?_
        refine PW_blk okT_read 3 rfl SpX_ok ?_
        simp only [wL0, wLc, true_and, w0, w2, lg0, lgi, lgr, lgl, w33, kX51, w12, w84, hk2.2.1]
        exact hk σ2 (-1 - nI r.2.2.2.1, r.2.1) he.symm hD3 hX2 (xt _ _ hR2)
      refine dY1 c1 ?_
      have k0 : σ2.1 51 4 = 0 ↔ r.2.2.1 = 0 := XK_n hk2 ht4 (n := 0) (by decide) (by decide)
      have k3 : σ2.1 51 4 = 3 ↔ r.2.2.1 = 3 := XK_n hk2 ht4 (n := 3) (by decide) (by decide)
      refine PW_blk okT_read 4 rfl SpX_ok ?_
      simp only [wL0, wLc, true_and, w2, lg0, lgi, lgr, lgl, w33, kX51, w73]
      by_cases c2 : r.2.2.1 = 0
      · rw [if_neg (fun z => by rw [c2] at z; exact absurd z.2 (by decide)), if_pos ⟨c1, c2⟩] at he
        refine b3Y (k0.mpr c2) ?_
        refine PW_blk okT_read 5 rfl SpX_ok ?_
        simp only [wL0, wLc, true_and, w1, lg0, lgi, lgr, lgl, w84]
        exact hk σ2 (nI (n + 1), r.2.1) he.symm hD3 hX2 (xt _ _ hR2)
      refine b3N (fun z => c2 (k0.mp z)) ?_
      refine PW_blk okT_read 6 rfl SpX_ok ?_
      simp only [wL0, wLc, true_and, w2, lg0, lgi, lgr, lgl, w33, kX51, w0, w78]
      by_cases c3 : r.2.2.1 = 3
      rotate_left
      · rw [if_neg (fun z => c3 z.2), if_neg (fun z => c2 z.2)] at he
        refine b2N (fun z => c3 (k3.mp z)) ?_
        refine PW_blk okT_read 7 rfl SpX_ok ?_
        simp only [wL0, wLc, true_and, w0, w2, lg0, lgi, lgr, lgl, w33, kX51, w12, w84, hk2.2.1]
        exact hk σ2 (-1 - nI r.2.2.2.1, r.2.1) he.symm hD3 hX2 (xt _ _ hR2)
      rw [if_pos ⟨c1, c3⟩] at he
      refine b2Y (k3.mpr c3) ?_
      have hb3 : r.2.2.2.1 < r.2.2.2.2.1 := by
        obtain ⟨p, hp, ee⟩ := hR2.2.2
        rw [ee] at c3 ⊢
        exact (tok_ok hp).2.2.2.2.2.1 c3
      have hnx := tkw_n (T := T) (tkw_v hR2.2.2)
      refine PW_blk okT_read 8 rfl SpX_ok ?_
      simp only [wL0, wLc, true_and, w2, lg0, lgi, lgr, lgl, w54_1, q40, q41, q42, q43, q44, Option.toList_some, Option.toList_none, List.cons_append, List.nil_append, w7, ls00, ls0i, ls0r, ls0l, lsi, lsr, lsl, Option.map_some, w70]
      refine X_next hτ hR2 (fun q hR4 => ?_)
      simp only [wL0, wLc, true_and, w2, lg0, lgi, lgr, lgl, w54_1, q40, q41, q42, q43, q44, Option.toList_some, Option.toList_none, List.cons_append, List.nil_append, w7, ls00, ls0i, ls0r, ls0l, lsi, lsr, lsl, Option.map_some, w70]
      rw [show (1 : Int32) = nI 1 from rfl, nI_add]
      exact ih (n + 1) r.2.1 _ _ (by omega) hIr (by have := hnx.2; omega) (Df_q hD3) (X_q hX2) hR4 he
  exact key 121 0 S _ σ1 rfl hI (Nat.zero_le _) hD1 hX1 hR1 hRR.symm
theorem X_text {T : Nat → Int32} {τ : Nat} (hτ : τ ≤ 120) (hX : XC σ 1 S) (hI : Inv S) (hT : XT σ T τ) (h1 : ∀ n S', rdT T τ 121 0 S (tok T τ 0) = (n, S') → ¬ n < 0 → ∀ σ', Xf σ σ' → XC σ' 1 S' → XT σ' T 0 → K (some (.int n)) σ') (h2 : ∀ n S', rdT T τ 121 0 S (tok T τ 0) = (n, S') → n < 0 → ∀ σ', Xf σ σ' → XC σ' 1 S → XT σ' T 0 → K (some (.int n)) σ') : Rn 0 ev mX_text [.ref 0] σ K := by
  have hc := CH1
  have hn10 := hI.1.2
  refine Rn_V (by decide) rc5 rfl rfl ?_
  refine PW_blk okX_text 0 rfl SpX_ok ?_
  simp only [wL0, wLc, true_and, w2, lg0, lgi, lgr, lgl, w35, kX0, rX0_2, rX0_0, w54_2, q40, q41, q42, q43, q44, Option.toList_some, Option.toList_none, List.cons_append, List.nil_append, rX0_5, w4, ls00, ls0i, ls0r, ls0l, lsi, lsr, lsl, Option.map_some, w1, w74, kX1, kX15, kX29]
  refine X_become CH29 CH1 (by decide) hX hn10 (fun σ1 hC1 hX1 => ?_)
  have hX11 : XC σ1 1 S := XC_cong (fun i a b => hC1 i (by omega)) hX
  have hT1 : XT σ1 T τ := ⟨by rw [hC1 51 (by decide)]; exact hT.1, by rw [hC1 52 (by decide)]; exact hT.2⟩
  simp only [wL0, wLc, true_and, w2, lg0, lgi, lgr, lgl, w35, kX0, rX0_2, rX0_0, w54_2, q40, q41, q42, q43, q44, Option.toList_some, Option.toList_none, List.cons_append, List.nil_append, rX0_5, w4, ls00, ls0i, ls0r, ls0l, lsi, lsr, lsl, Option.map_some, w1, w74, kX1, kX15, kX29]
  refine X_read hτ hX1 hI hT1 (fun σ2 r hr hD2 hX2 hT2 => ?_)
  obtain ⟨n, S'⟩ := r
  have hok := rdT_ok (T := T) (τ := τ) 121 0 S (tok T τ 0) hI
  rw [← hr] at hok
  have hX21 : XC σ2 1 S := XC_cong (fun i a b => hD2 i (by omega) (by omega)) hX11
  simp only [wL0, wLc, true_and, w2, lg0, lgi, lgr, lgl, w35, kX0, rX0_2, rX0_0, w54_2, q40, q41, q42, q43, q44, Option.toList_some, Option.toList_none, List.cons_append, List.nil_append, rX0_5, w4, ls00, ls0i, ls0r, ls0l, lsi, lsr, lsl, Option.map_some, w1, w74]
  by_cases c : n < 0
  · refine b2Y c ?_
    refine PW_blk okX_text 2 rfl SpX_ok ?_
    simp only [wL0, wLc, true_and, w2, lg0, lgi, lgr, lgl, w35, kX0, rX0_5, w54_1, q40, q41, q42, q43, q44, Option.toList_some, Option.toList_none, List.cons_append, List.nil_append, xp_T_clear, w9i, w9r, w1, w84]
    refine h2 n S' hr.symm c _ (fun i a b d => ?_) (XC_cong (fun i a b => sr1n (by omega)) hX21) ⟨by rw [sr1, updS]; rfl, by rw [sr1n (by decide)]; exact hT2.2⟩
    rw [sr1n d, hD2 i d b, hC1 i b]
  · refine b2N c ?_
    refine PW_blk okX_text 1 rfl SpX_ok ?_
    simp only [wL0, wLc, true_and, w2, lg0, lgi, lgr, lgl, w35, kX0, rX0_0, rX0_2, w54_2, q40, q41, q42, q43, q44, Option.toList_some, Option.toList_none, List.cons_append, List.nil_append, w71, kX1, kX15, kX29]
    refine X_become CH1 CH29 (by decide) hX2 hok.1.1.2 (fun σ3 hC3 hX3 => ?_)
    simp only [wL0, wLc, true_and, w2, lg0, lgi, lgr, lgl, w35, kX0, rX0_0, rX0_2, w54_2, q40, q41, q42, q43, q44, Option.toList_some, Option.toList_none, List.cons_append, List.nil_append, w71]
    refine PW_blk okX_text 2 rfl SpX_ok ?_
    simp only [wL0, wLc, true_and, w2, lg0, lgi, lgr, lgl, w35, kX0, rX0_5, w54_1, q40, q41, q42, q43, q44, Option.toList_some, Option.toList_none, List.cons_append, List.nil_append, xp_T_clear, w9i, w9r, w1, w84]
    refine h1 n S' hr.symm c _ (fun i a b d => ?_) (XC_cong (fun i a b => sr1n (by omega)) hX3) ⟨by rw [sr1, updS]; rfl, by rw [sr1n (by decide), hC3 52 (by decide)]; exact hT2.2⟩
    rw [sr1n d, hC3 i (by omega), hD2 i d b, hC1 i b]
end VX
