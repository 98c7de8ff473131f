/-! kindFor, link, linked, spared, surest -/
theorem or_self_bit {a b : Nat} (h : a.testBit b = true) : a ||| 2 ^ b = a := by
  apply Nat.eq_of_testBit_eq
  intro i
  rw [bit_or]
  by_cases e : i = b
  · subst e; rw [h]; rfl
  · rw [decide_eq_false e, Bool.or_false]
theorem kindO_b {S : Nat → Int32} (hI : Inv S) {l : Nat} (hl : l < nv S 3) : ∀ k v, k ≤ 6 → kindO S l k = some v → v ≤ 133120 := by
  intro k v hk h
  have hIs : Inv (upd S (tr l 0) (nI k)) := Inv_change hI (w := 0) hl (by decide) (Nat.zero_le _) hk
  exact lst_lt hIs (by have := p2le _ hI.1.2; have := hI.2.1.2; omega) h
theorem Inv_after {S : Nat → Int32} (hI : Inv S) {a b : Nat} (ha : a < nv S 3) (hb : b < 10) : Inv (upd S (tr a 8) (nI (nv S (tr a 8) ||| 2 ^ b))) := by
  have hx := (hI.2.2.2.2.2.2.2.2.1 a ha).2.2.2.2.2.2.2.2.1.2
  have : nv S (tr a 8) ||| 2 ^ b < 2 ^ 10 := or_lt (by omega) hb
  exact Inv_changeB hI (w := 8) ha (by decide) (Nat.zero_le _) (show _ ≤ 1023 by omega)
/-- what is asked of a search whose room ends at n -/
def lim {α : Type} (n : Nat) (f : Nat → Option α) (k : Nat) : Option α := if k < n then f k else none
theorem lim_in {α : Type} {n k : Nat} {f : Nat → Option α} (h : k < n) : lim n f k = f k := if_pos h
theorem lim_b {n : Nat} {f : Nat → Option Nat} (hf : ∀ k v, k < n → f k = some v → v ≤ 133120) : ∀ k v, lim n f k = some v → v ≤ 133120 := by
  intro k v h
  unfold lim at h
  split at h
  next hk => exact hf k v hk h
  next => cases h
theorem am_lim {n : Nat} {f : Nat → Option Nat} : ∀ m, m ≤ n → amU (lim n f) m = amU f m
  | 0, _ => rfl
  | m + 1, h => by unfold amU; rw [am_lim m (by omega), lim_in (by omega)]
theorem ax_lim {n : Nat} {f : Nat → Option Nat} : ∀ m, m ≤ n → axU (lim n f) m = axU f m
  | 0, _ => rfl
  | m + 1, h => by unfold axU; rw [ax_lim m (by omega), lim_in (by omega)]
theorem ax_b {f : Nat → Option Nat} (hf : ∀ k v, f k = some v → v ≤ 133120) {k : Nat} (h : encF (f k) < 99999999 ∧ eM (axU f k) < encF (f k)) : eA (axU f (k + 1)) = nI k ∧ eM (axU f (k + 1)) = encF (f k) := by
  unfold axU
  cases e : f k with
  | none => rw [e] at h; exact absurd h.1 (by decide)
  | some v =>
    have hv := hf k v e
    cases e2 : axU f k with
    | none => exact ⟨rfl, rfl⟩
    | some q =>
      obtain ⟨b, l⟩ := q
      have hb := axU_b hf k b l e2
      rw [e, e2] at h
      have h2 : l < v := (nI_lt_iff (by omega) (by omega)).mp h.2
      show eA (if l < v then some (k, v) else some (b, l)) = _ ∧ eM (if l < v then some (k, v) else some (b, l)) = _
      rw [if_pos h2]
      exact ⟨rfl, rfl⟩
theorem ax_n {f : Nat → Option Nat} (hf : ∀ k v, f k = some v → v ≤ 133120) {k : Nat} (h : ¬ (encF (f k) < 99999999 ∧ eM (axU f k) < encF (f k))) : axU f (k + 1) = axU f k := by
  conv => lhs; unfold axU
  cases e : f k with
  | none => rfl
  | some v =>
    have hv := hf k v e
    have h1 : encF (some v) < 99999999 := encF_lt (by omega)
    cases e2 : axU f k with
    | none =>
      rw [e, e2] at h
      have h3 : eM none < encF (some v) := by
        show (-1 : Int32) < nI v
        rw [fa_lt, nI_toInt (by omega), show (-1 : Int32).toInt = -1 from by decide]
        omega
      exact absurd ⟨h1, h3⟩ h
    | some q =>
      obtain ⟨b, l⟩ := q
      have hb := axU_b hf k b l e2
      rw [e, e2] at h
      have h2 : ¬ l < v := fun z => h ⟨h1, (nI_lt_iff (by omega) (by omega)).mpr z⟩
      show (if l < v then some (k, v) else some (b, l)) = _
      rw [if_neg h2]
section MK
variable {ev : EV} {σ : St2} {K : PO}
theorem R_kindFor {l : Int32} (hI : Inv (σ.1 1)) (h0 : ¬ hasL (σ.1 1) l → K (some (.int (-1000001))) (noS σ 0)) (h1 : ∀ k, k < nv (σ.1 1) 3 → l = nI k → amU (kindO (σ.1 1) k) 7 = none → ∀ σ', Sm σ σ' → K (some (.int (-1000004))) (noS σ' 3)) (h2 : ∀ k b c, k < nv (σ.1 1) 3 → l = nI k → amU (kindO (σ.1 1) k) 7 = some (b, c) → ∀ σ', Sm σ σ' → K (some (.int (nI b))) σ') : Rn 1 ev mM_kindFor [.ref 0, .int l] σ K := by
  have hoT := hI.2.1.2
  have hn := hI.1.2
  have hT := p2le _ hn
  refine Rn_V (by decide) rc6 rfl rfl ?_
  refine PW_blk okM_kindFor 0 rfl SpM_ok ?_
  simp only [wL0, wLc, true_and, w2, lg0, lgi, lgr, lgl, w1, w54_2, q40, q41, q42, q43, q44, Option.toList_some, Option.toList_none, List.cons_append, List.nil_append, sp_isLock, w73]
  by_cases hl : hasL (σ.1 1) l
  rotate_left
  · refine dN (in1LN hI.1 hl) ?_
    refine PW_blk okM_kindFor 1 rfl SpM_ok ?_
    simp only [wL0, wLc, true_and, w2, lg0, lgi, lgr, lgl, w0, w54_2, q40, q41, q42, q43, q44, Option.toList_some, Option.toList_none, List.cons_append, List.nil_append, sp_no, v7_0, v7_1, v7_2, v7_3, v7_4, v7_5, v7_6, w84]
    exact h0 hl
  refine dY (in1LY hI.1 hl) ?_
  obtain ⟨q, hq, rfl⟩ := hl
  have hq10 : q < 10 := by omega
  have h1 := h1 q hq rfl
  have h2 := fun b c => h2 q b c hq rfl
  have hfa := lim_b (n := 7) (f := kindO (σ.1 1) q) (fun k v hk h => kindO_b hI hq k v (by omega) h)
  rw [← am_lim (n := 7) (f := kindO (σ.1 1) q) 7 (Nat.le_refl _)] at h1 h2
  refine PW_blk okM_kindFor 2 rfl SpM_ok ?_
  simp only [wL0, wLc, true_and, w2, lg0, lgi, lgr, lgl, w1, w0, w54_3, q40, q41, q42, q43, q44, Option.toList_some, Option.toList_none, List.cons_append, List.nil_append, sp_get, w4, ls00, ls0i, ls0r, ls0l, lsi, lsr, lsl, Option.map_some, w71, gv0 hq10, gt0 hq10]
  have hFk : ∀ k, k < 7 → lim 7 (kindO (σ.1 1) q) k = lst (upd (σ.1 1) (tr q 0) (nI k)) 0 (nv (σ.1 1) 2) := fun k hk => lim_in hk
  generalize hF : lim 7 (kindO (σ.1 1) q) = F at *
  have key := lp_up (n := 7) (P := fun k => ∀ σ' x, Sq σ σ' → σ'.1 1 = upd (σ.1 1) (tr q 0) x → PW 1 ev mM_kindFor 30 [.ref 0, .int (nI q), .int (σ.1 1 (tr q 0)), .int (eA (amU F k)), .int (eL (amU F k)), .int (nI k)] [] σ' K) ?_ ?_ 0 (by decide) σ _ Sq_r (fa_upd_same rfl).symm
  · exact key
  · intro σ' x hS hx
    refine PW_blk okM_kindFor 3 rfl SpM_ok ?_
    simp only [wL0, wLc, true_and, w1, lg0, lgi, lgr, lgl, w0, w82]
    refine b2Y (by decide) ?_
    refine PW_blk okM_kindFor 11 rfl SpM_ok ?_
    simp only [wL0, wLc, true_and, w2, lg0, lgi, lgr, lgl, w1, w0, w54_4, q40, q41, q42, q43, q44, Option.toList_some, Option.toList_none, List.cons_append, List.nil_append, sp_puts, w75, gv0 hq10, gt0 hq10, si_is, hx]
    have hS2 : Sm σ (sr σ' 1 (upd (upd (σ.1 1) (tr q 0) x) (tr q 0) (σ.1 1 (tr q 0)))) := Sq_end hS (by rw [fa_upd_twice]; exact fa_upd_same rfl)
    rw [eA_neg (fun b l hb => by have := amU_b hfa _ b l hb; omega)]
    cases e : amU F 7 with
    | none =>
      refine b3Y rfl ?_
      refine PW_blk okM_kindFor 12 rfl SpM_ok ?_
      simp only [wL0, wLc, true_and, w2, lg0, lgi, lgr, lgl, w0, w54_2, q40, q41, q42, q43, q44, Option.toList_some, Option.toList_none, List.cons_append, List.nil_append, sp_no, v7_0, v7_1, v7_2, v7_3, v7_4, v7_5, v7_6, w70]
      refine PW_blk okM_kindFor 14 rfl SpM_ok ?_
      simp only [wL0, w84]
      exact h1 e _ hS2
    | some q2 =>
      obtain ⟨b, c⟩ := q2
      refine b3N (fun z => by cases z) ?_
      refine PW_blk okM_kindFor 13 rfl SpM_ok ?_
      simp only [wL0, wLc, true_and, w1, lg0, lgi, lgr, lgl, w71]
      refine PW_blk okM_kindFor 14 rfl SpM_ok ?_
      simp only [wL0, w84]
      exact h2 b c e _ hS2
  · intro k hk ih σ' x hS hx
    have hIs : Inv (upd (σ.1 1) (tr q 0) (nI k)) := Inv_change hI (w := 0) hq (by decide) (Nat.zero_le _) (show k ≤ 6 by omega)
    have eG : upd (upd (σ.1 1) (tr q 0) x) (tr q 0) (nI k) 2 = nI (nv (σ.1 1) 2) := by rw [updN n2_tr, updN n2_tr]; exact hI.2.1.1.1
    have e2 : nv (upd (σ.1 1) (tr q 0) (nI k)) 2 = nv (σ.1 1) 2 := nv_ne n2_tr
    have e3 : nv (upd (σ.1 1) (tr q 0) (nI k)) 3 = nv (σ.1 1) 3 := nv_ne n3_tr
    refine PW_blk okM_kindFor 3 rfl SpM_ok ?_
    simp only [wL0, wLc, true_and, w1, lg0, lgi, lgr, lgl, w0, w82]
    refine b2N (nI_nlt (a := 6) (b := k) (by omega) (by decide)) ?_
    refine PW_blk okM_kindFor 4 rfl SpM_ok ?_
    simp only [wL0, wLc, true_and, w2, lg0, lgi, lgr, lgl, w1, w0, w54_4, q40, q41, q42, q43, q44, Option.toList_some, Option.toList_none, List.cons_append, List.nil_append, sp_puts, w35, kM0, rM0, kM1, nM1, w39, w54_3, w4, ls00, ls0i, ls0r, ls0l, lsi, lsr, lsl, Option.map_some, tn0, vi0_120, tn2, vi2_120, w81, gv0 hq10, gt0 hq10, si_is, hx, sr1, eG]
    refine R_leastFrom' (S := upd (σ.1 1) (tr q 0) (nI k)) (b := 0) (by rw [sr1, fa_upd_twice]) hIs (by decide) (by rw [e3]; exact hoT) (fun r => ?_)
    simp only [wL0, wLc, true_and, w2, lg0, lgi, lgr, lgl, w1, w0, w54_4, q40, q41, q42, q43, q44, Option.toList_some, Option.toList_none, List.cons_append, List.nil_append, sp_puts, w35, kM0, rM0, kM1, nM1, w39, w54_3, w4, ls00, ls0i, ls0r, ls0l, lsi, lsr, lsl, Option.map_some, tn0, vi0_120, tn2, vi2_120, w81]
    have hS2 : Sq σ (sr (sr σ' 1 (upd (upd (σ.1 1) (tr q 0) x) (tr q 0) (nI k))) 5 r) := Sq_sr (by decide) (by decide) (Sq_1 hS)
    have hx2 : (sr (sr σ' 1 (upd (upd (σ.1 1) (tr q 0) x) (tr q 0) (nI k))) 5 r).1 1 = upd (σ.1 1) (tr q 0) (nI k) := by rw [n5_1, sr1, fa_upd_twice]
    rw [← hFk k hk]
    by_cases c : encF (F k) < eL (amU F k)
    · obtain ⟨a1, a2⟩ := am_lt hfa c
      refine b3Y c ?_
      refine PW_blk okM_kindFor 5 rfl SpM_ok ?_
      simp only [wL0, wLc, true_and, w1, lg0, lgi, lgr, lgl, w70]
      refine PW_blk okM_kindFor 7 rfl SpM_ok ?_
      simp only [wL0, wLc, true_and, w4, ls00, ls0i, ls0r, ls0l, lsi, lsr, lsl, Option.map_some, w1, lg0, lgi, lgr, lgl, w81]
      refine b3Y c ?_
      refine PW_blk okM_kindFor 8 rfl SpM_ok ?_
      simp only [wL0, wLc, true_and, w1, lg0, lgi, lgr, lgl, w70]
      refine PW_blk okM_kindFor 10 rfl SpM_ok ?_
      simp only [wL0, wLc, true_and, w4, ls00, ls0i, ls0r, ls0l, lsi, lsr, lsl, Option.map_some, w7, lg0, lgi, lgr, lgl, w70]
      refine PW_loc 6 ?_
      rw [show (1 : Int32) = nI 1 from rfl, nI_add, ← a1, ← a2]
      have nx := ih _ _ hS2 hx2
      rw [a1] at nx ⊢
      exact nx
    · have a1 := am_nlt hfa c
      refine b3N c ?_
      refine PW_blk okM_kindFor 6 rfl SpM_ok ?_
      simp only [wL0, wLc, true_and, w1, lg0, lgi, lgr, lgl, w71]
      refine PW_blk okM_kindFor 7 rfl SpM_ok ?_
      simp only [wL0, wLc, true_and, w4, ls00, ls0i, ls0r, ls0l, lsi, lsr, lsl, Option.map_some, w1, lg0, lgi, lgr, lgl, w81]
      refine b3N c ?_
      refine PW_blk okM_kindFor 9 rfl SpM_ok ?_
      simp only [wL0, wLc, true_and, w1, lg0, lgi, lgr, lgl, w71]
      refine PW_blk okM_kindFor 10 rfl SpM_ok ?_
      simp only [wL0, wLc, true_and, w4, ls00, ls0i, ls0r, ls0l, lsi, lsr, lsl, Option.map_some, w7, lg0, lgi, lgr, lgl, w70]
      refine PW_loc 6 ?_
      rw [show (1 : Int32) = nI 1 from rfl, nI_add, ← a1]
      exact ih _ _ hS2 hx2
theorem R_spared (hI : Inv (σ.1 1)) (h1 : amU (sparedO (σ.1 1)) (nv (σ.1 1) 3) = none → ∀ σ', Sm σ σ' → K (some (.int (-1000004))) (noS σ' 3)) (h2 : ∀ b c, amU (sparedO (σ.1 1)) (nv (σ.1 1) 3) = some (b, c) → ∀ σ', Sm σ σ' → K (some (.int (nI b))) σ') : Rn 1 ev mM_spared [.ref 0] σ K := by
  have hoT := hI.2.1.2
  have hn := hI.1.2
  have hT := p2le _ hn
  have hg := hI.2.2.2.2.2.1
  have hIk : ∀ k, Inv (upd (σ.1 1) 6 (nI (dif (nv (σ.1 1) 6) (2 ^ k)))) := fun k => Inv_rule hI (w := 2) (by decide) (show dif (nv (σ.1 1) 6) (2 ^ k) ≤ 2 ^ nv (σ.1 1) 3 - 1 by have := dif_le (nv (σ.1 1) 6) (2 ^ k); have := hg.2; omega)
  have hfa := lim_b (n := nv (σ.1 1) 3) (f := sparedO (σ.1 1)) (fun k v hk h => by
    unfold sparedO at h
    split at h
    · exact lst_lt (hIk k) (by omega) h
    · cases h)
  rw [← am_lim (n := nv (σ.1 1) 3) (f := sparedO (σ.1 1)) _ (Nat.le_refl _)] at h1 h2
  refine Rn_V (by decide) rc6 rfl rfl ?_
  refine PW_blk okM_spared 0 rfl SpM_ok ?_
  simp only [wL0, wLc, true_and, w2, lg0, lgi, lgr, lgl, w35, kM0, rM0, kM1, nM1, w0, w39, w4, ls00, ls0i, ls0r, ls0l, lsi, lsr, lsl, Option.map_some, tn0, vi0_120, tn6, vi6_120, w71]
  have hFk : ∀ k, k < nv (σ.1 1) 3 → lim (nv (σ.1 1) 3) (sparedO (σ.1 1)) k = if (nv (σ.1 1) 6).testBit k then lst (upd (σ.1 1) 6 (nI (dif (nv (σ.1 1) 6) (2 ^ k)))) 0 (nv (σ.1 1) 2) else none := fun k hk => lim_in hk
  generalize hF : lim (nv (σ.1 1) 3) (sparedO (σ.1 1)) = F at *
  have key := lp_up (n := nv (σ.1 1) 3) (P := fun k => ∀ σ' x, Sq σ σ' → σ'.1 1 = upd (σ.1 1) 6 x → PW 1 ev mM_spared 16 [.ref 0, .int (σ.1 1 6), .int (eA (amU F k)), .int (eL (amU F k)), .int (nI k)] [] σ' K) ?_ ?_ 0 (Nat.zero_le _) σ _ Sq_r (fa_upd_same rfl).symm
  · exact key
  · intro σ' x hS hx
    have ex3 : upd (σ.1 1) 6 x 3 = nI (nv (σ.1 1) 3) := by rw [updN (by decide)]; exact hI.1.1
    refine PW_blk okM_spared 1 rfl SpM_ok ?_
    simp only [wL0, wLc, true_and, w1, lg0, lgi, lgr, lgl, w2, w35, kM0, rM0, kM1, nM1, w0, w39, tn3, vi3_120, w81, hx, ex3]
    refine b3N (nI_nlt (Nat.le_refl _) (by omega)) ?_
    refine PW_blk okM_spared 11 rfl SpM_ok ?_
    simp only [wL0, wLc, true_and, w2, lg0, lgi, lgr, lgl, w35, kM0, rM0, kM1, nM1, w0, w1, w40, tn6, vi6_120, w75, si_is, hx]
    have hS2 : Sm σ (sr σ' 1 (upd (upd (σ.1 1) 6 x) 6 (σ.1 1 6))) := Sq_end hS (by rw [fa_upd_twice]; exact fa_upd_same rfl)
    rw [eA_neg (fun b l hb => by have := amU_b hfa _ b l hb; omega)]
    cases e : amU F (nv (σ.1 1) 3) with
    | none =>
      refine b3Y rfl ?_
      refine PW_blk okM_spared 12 rfl SpM_ok ?_
      simp only [wL0, wLc, true_and, w2, lg0, lgi, lgr, lgl, w0, w54_2, q40, q41, q42, q43, q44, Option.toList_some, Option.toList_none, List.cons_append, List.nil_append, sp_no, v7_0, v7_1, v7_2, v7_3, v7_4, v7_5, v7_6, w70]
      refine PW_blk okM_spared 14 rfl SpM_ok ?_
      simp only [wL0, w84]
      exact h1 e _ hS2
    | some q2 =>
      obtain ⟨b, c⟩ := q2
      refine b3N (fun z => by cases z) ?_
      refine PW_blk okM_spared 13 rfl SpM_ok ?_
      simp only [wL0, wLc, true_and, w1, lg0, lgi, lgr, lgl, w71]
      refine PW_blk okM_spared 14 rfl SpM_ok ?_
      simp only [wL0, w84]
      exact h2 b c e _ hS2
  · intro k hk ih σ' x hS hx
    have ex3 : upd (σ.1 1) 6 x 3 = nI (nv (σ.1 1) 3) := by rw [updN (by decide)]; exact hI.1.1
    have hIs := hIk k
    have eG : upd (upd (σ.1 1) 6 x) 6 (nI (dif (nv (σ.1 1) 6) (2 ^ k))) 2 = nI (nv (σ.1 1) 2) := by rw [updN (by decide), updN (by decide)]; exact hI.2.1.1.1
    have next : ∀ σ' x, Sq σ σ' → σ'.1 1 = upd (σ.1 1) 6 x → PW 1 ev mM_spared 90 [.ref 0, .int (σ.1 1 6), .int (eA (amU F (k + 1))), .int (eL (amU F (k + 1))), .int (nI k)] [] σ' K := by
      intro σ' x hS hx
      refine PW_blk okM_spared 10 rfl SpM_ok ?_
      simp only [wL0, wLc, true_and, w7, lg0, lgi, lgr, lgl, ls00, ls0i, ls0r, ls0l, lsi, lsr, lsl, Option.map_some, w70]
      rw [show (1 : Int32) = nI 1 from rfl, nI_add]
      exact ih σ' x hS hx
    refine PW_blk okM_spared 1 rfl SpM_ok ?_
    simp only [wL0, wLc, true_and, w1, lg0, lgi, lgr, lgl, w2, w35, kM0, rM0, kM1, nM1, w0, w39, tn3, vi3_120, w81, hx, ex3]
    refine b3Y (nI_lt hk (by omega)) ?_
    refine PW_blk okM_spared 2 rfl SpM_ok ?_
    simp only [wL0, wLc, true_and, w1, lg0, lgi, lgr, lgl, w55_2, q40, q41, q42, q43, q44, Option.toList_some, Option.toList_none, List.cons_append, List.nil_append, sp_isIn, w72]
    rw [hg.1.1, isInF_n (by omega) (by omega)]
    rw [hg.1.1] at next
    by_cases hb : (nv (σ.1 1) 6).testBit k = true
    rotate_left
    · rw [if_neg hb]
      refine b2Y rfl ?_
      have e0 : F k = none := by rw [hFk k hk, if_neg hb]
      have e1 : amU F (k + 1) = amU F k := am_nlt hfa (by rw [e0]; exact eL_FAR hfa)
      rw [e1] at next
      exact next σ' x hS hx
    rw [if_pos hb]
    refine b2N (by decide) ?_
    refine PW_blk okM_spared 3 rfl SpM_ok ?_
    simp only [wL0, wLc, true_and, w2, lg0, lgi, lgr, lgl, w35, kM0, rM0, kM1, nM1, w0, w1, w19, w18, w16, w40, w39, w54_3, q40, q41, q42, q43, q44, Option.toList_some, Option.toList_none, List.cons_append, List.nil_append, w4, ls00, ls0i, ls0r, ls0l, lsi, lsr, lsl, Option.map_some, tn0, vi0_120, tn1, vi1_120, tn2, vi2_120, tn6, vi6_120, w81, si_is, hx, sr1, nI_sh1 k (by omega), dif_I, eG]
    refine R_leastFrom' (S := upd (σ.1 1) 6 (nI (dif (nv (σ.1 1) 6) (2 ^ k)))) (b := 0) (by rw [sr1, fa_upd_twice]) hIs (by decide) (by rw [nv_ne (by decide)]; exact hoT) (fun r => ?_)
    simp only [wL0, wLc, true_and, w2, lg0, lgi, lgr, lgl, w35, kM0, rM0, kM1, nM1, w0, w1, w19, w18, w16, w40, w39, w54_3, q40, q41, q42, q43, q44, Option.toList_some, Option.toList_none, List.cons_append, List.nil_append, w4, ls00, ls0i, ls0r, ls0l, lsi, lsr, lsl, Option.map_some, tn0, vi0_120, tn1, vi1_120, tn2, vi2_120, tn6, vi6_120, w81]
    have hS2 : Sq σ (sr (sr σ' 1 (upd (upd (σ.1 1) 6 x) 6 (nI (dif (nv (σ.1 1) 6) (2 ^ k))))) 5 r) := Sq_sr (by decide) (by decide) (Sq_1 hS)
    have hx2 : (sr (sr σ' 1 (upd (upd (σ.1 1) 6 x) 6 (nI (dif (nv (σ.1 1) 6) (2 ^ k))))) 5 r).1 1 = upd (σ.1 1) 6 (nI (dif (nv (σ.1 1) 6) (2 ^ k))) := by rw [n5_1, sr1, fa_upd_twice]
    have eF : lst (upd (σ.1 1) 6 (nI (dif (nv (σ.1 1) 6) (2 ^ k)))) 0 (nv (σ.1 1) 2) = F k := by rw [hFk k hk, if_pos hb]
    rw [eF]
    have nx := next _ _ hS2 hx2
    by_cases c : encF (F k) < eL (amU F k)
    · obtain ⟨a1, a2⟩ := am_lt hfa c
      rw [a1, a2] at nx
      refine b3Y c ?_
      refine PW_blk okM_spared 4 rfl SpM_ok ?_
      simp only [wL0, wLc, true_and, w1, lg0, lgi, lgr, lgl, w70]
      refine PW_blk okM_spared 6 rfl SpM_ok ?_
      simp only [wL0, wLc, true_and, w4, ls00, ls0i, ls0r, ls0l, lsi, lsr, lsl, Option.map_some, w1, lg0, lgi, lgr, lgl, w81]
      refine b3Y c ?_
      refine PW_blk okM_spared 7 rfl SpM_ok ?_
      simp only [wL0, wLc, true_and, w1, lg0, lgi, lgr, lgl, w70]
      refine PW_blk okM_spared 9 rfl SpM_ok ?_
      simp only [wL0, wLc, true_and, w4, ls00, ls0i, ls0r, ls0l, lsi, lsr, lsl, Option.map_some, w71]
      refine PW_loc 5 ?_
      exact nx
    · have a1 := am_nlt hfa c
      rw [a1] at nx
      refine b3N c ?_
      refine PW_blk okM_spared 5 rfl SpM_ok ?_
      simp only [wL0, wLc, true_and, w1, lg0, lgi, lgr, lgl, w71]
      refine PW_blk okM_spared 6 rfl SpM_ok ?_
      simp only [wL0, wLc, true_and, w4, ls00, ls0i, ls0r, ls0l, lsi, lsr, lsl, Option.map_some, w1, lg0, lgi, lgr, lgl, w81]
      refine b3N c ?_
      refine PW_blk okM_spared 8 rfl SpM_ok ?_
      simp only [wL0, wLc, true_and, w1, lg0, lgi, lgr, lgl, w71]
      refine PW_blk okM_spared 9 rfl SpM_ok ?_
      simp only [wL0, wLc, true_and, w4, ls00, ls0i, ls0r, ls0l, lsi, lsr, lsl, Option.map_some, w71]
      refine PW_loc 5 ?_
      exact nx
end MK
