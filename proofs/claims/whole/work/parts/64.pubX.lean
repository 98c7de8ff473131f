/-! the class's public methods: sounds, locks, the man, steps, draws -/
theorem rg_lt {v : Int32} {m : Nat} : rgI v 0 m ↔ ∃ n, n < m + 1 ∧ v = nI n :=
  ⟨fun ⟨n, _, b, e⟩ => ⟨n, by omega, e⟩, fun ⟨n, b, e⟩ => ⟨n, Nat.zero_le _, by omega, e⟩⟩
theorem rg_neg {v : Int32} {a m : Nat} (hm : m < 2147483648) (h : v < 0) : ¬ rgI v a m := fun ⟨n, _, b, e⟩ => by
  rw [e] at h
  exact lt0 (by omega) h
theorem rg_big {n a m : Nat} (hn : n < 2147483648) (h : m < n) (hm : m < 2147483648) : ¬ rgI (nI n) a m := fun ⟨q, _, b, e⟩ => by
  rw [nI_eq_iff hn (by omega)] at e
  omega
section PX
variable {ev : EV} {σ : St2} {K : PO} {S : Nat → Int32}
theorem X_sheetFinding {s : Int32} {W N C : Nat → Int32} (hS : ∀ j, j < 4 → XS σ j W N C) (h1 : ¬ rgI s 0 3 → K (some (.int (-1000001))) σ) (h2 : ∀ j, j < 4 → s = nI j → W j = 0 → K (some (.int (-1000006))) σ) (h3 : ∀ j, j < 4 → s = nI j → ¬ W j = 0 → K (some (.int 0)) σ) : Rn 0 ev mX_sheetFinding [.ref 0, .int s] σ K := by
  refine Rn_V (by decide) rc5 rfl rfl ?_
  refine PW_blk okX_sheetFinding 0 rfl SpX_ok ?_
  simp only [wL0, wLc, true_and, w2, lg0, lgi, lgr, lgl, w1, w54_2, q40, q41, q42, q43, q44, Option.toList_some, Option.toList_none, List.cons_append, List.nil_append, xp_X_isSheet, w73]
  by_cases hr : ∃ n, n < 4 ∧ s = nI n
  rotate_left
  · refine dN (in0N (m := 4) (by decide) hr) ?_
    refine PW_blk okX_sheetFinding 1 rfl SpX_ok ?_
    simp only [wL0, wLc, true_and, w0, w84]
    exact h1 (fun z => hr (rg_lt.mp z))
  refine dY (in0Y (m := 4) (by decide) hr) ?_
  obtain ⟨j, hj, rfl⟩ := hr
  have hs := SHj hj
  have e1 := (hS j hj).1
  refine PW_blk okX_sheetFinding 2 rfl SpX_ok ?_
  simp only [wL0, wLc, true_and, w2, lg0, lgi, lgr, lgl, w35, kX0, rX0_6, kX53, nX53, w1, w42, w54_1, q40, q41, q42, q43, q44, Option.toList_some, Option.toList_none, List.cons_append, List.nil_append, xp_S_isMissing, SH_e hs, w72, v4 hj, c10 (show j < 10 by omega), rfj hj, e1]
  by_cases z : W j = 0
  · refine bY1 z ?_
    refine PW_blk okX_sheetFinding 3 rfl SpX_ok ?_
    simp only [wL0, wLc, true_and, w0, w70]
    refine PW_blk okX_sheetFinding 5 rfl SpX_ok ?_
    simp only [wL0, w84]
    exact h2 j hj rfl z
  · refine bN1 z ?_
    refine PW_blk okX_sheetFinding 4 rfl SpX_ok ?_
    simp only [wL0, wLc, true_and, w0, w71]
    refine PW_blk okX_sheetFinding 5 rfl SpX_ok ?_
    simp only [wL0, w84]
    exact h3 j hj rfl z
theorem X_fits {s : Int32} {W N C : Nat → Int32} (hX : XC σ 1 S) (hI : Inv S) (hS : ∀ j, j < 4 → XS σ j W N C) (hSh : ShI W N) (h1 : ¬ rgI s 0 3 → K (some (.int (-1000001))) (noX σ 0)) (h2 : ∀ j, j < 4 → s = nI j → W j = 0 → K (some (.int (-1000006))) (noX σ 5)) (h3 : ∀ j, j < 4 → s = nI j → ¬ W j = 0 → ∀ σ', Wf σ σ' → K (some (.int (nI (suU (hcL S (fun i => C (40 * j + i)) (m8 (nv N j)) (m8 (nv N j))) 1024)))) σ') : Rn 0 ev mX_fits [.ref 0, .int s] σ K := by
  refine Rn_V (by decide) rc5 rfl rfl ?_
  refine PW_blk okX_fits 0 rfl SpX_ok ?_
  simp only [wL0, wLc, true_and, w2, lg0, lgi, lgr, lgl, w1, w54_2, q40, q41, q42, q43, q44, Option.toList_some, Option.toList_none, List.cons_append, List.nil_append, w4, ls00, ls0i, ls0r, ls0l, lsi, lsr, lsl, Option.map_some, w72]
  refine X_sheetFinding hS (fun z => ?_) (fun j hj e z => ?_) (fun j hj e z => ?_)
  · simp only [wL0, wLc, true_and, w2, lg0, lgi, lgr, lgl, w1, w54_2, q40, q41, q42, q43, q44, Option.toList_some, Option.toList_none, List.cons_append, List.nil_append, w4, ls00, ls0i, ls0r, ls0l, lsi, lsr, lsl, Option.map_some, w72]
    refine b2N (by decide) ?_
    refine PW_blk okX_fits 1 rfl SpX_ok ?_
    simp only [wL0, wLc, true_and, w2, lg0, lgi, lgr, lgl, w1, w54_2, q40, q41, q42, q43, q44, Option.toList_some, Option.toList_none, List.cons_append, List.nil_append, xp_X_tell, tl0, tl1, tl2, tl3, tl4, tl5, tl6, tq0, tq1, tq2, tq3, tq4, tq5, tq6, w84]
    exact h1 z
  · simp only [wL0, wLc, true_and, w2, lg0, lgi, lgr, lgl, w1, w54_2, q40, q41, q42, q43, q44, Option.toList_some, Option.toList_none, List.cons_append, List.nil_append, w4, ls00, ls0i, ls0r, ls0l, lsi, lsr, lsl, Option.map_some, w72]
    refine b2N (by decide) ?_
    refine PW_blk okX_fits 1 rfl SpX_ok ?_
    simp only [wL0, wLc, true_and, w2, lg0, lgi, lgr, lgl, w1, w54_2, q40, q41, q42, q43, q44, Option.toList_some, Option.toList_none, List.cons_append, List.nil_append, xp_X_tell, tl0, tl1, tl2, tl3, tl4, tl5, tl6, tq0, tq1, tq2, tq3, tq4, tq5, tq6, w84]
    exact h2 j hj e z
  · subst e
    simp only [wL0, wLc, true_and, w2, lg0, lgi, lgr, lgl, w1, w54_2, q40, q41, q42, q43, q44, Option.toList_some, Option.toList_none, List.cons_append, List.nil_append, w4, ls00, ls0i, ls0r, ls0l, lsi, lsr, lsl, Option.map_some, w72]
    refine b2Y trivial ?_
    have hN := (hSh j hj).2
    have e2 : σ.1 (54 + 2 * j) 2 = nI (nv N j) := (hS j hj).2.1.trans hN.1
    refine PW_blk okX_fits 2 rfl SpX_ok ?_
    simp only [wL0, wLc, true_and, w2, lg0, lgi, lgr, lgl, w35, kX0, rX0_3, rX0_6, kX53, nX53, w1, w42, w54_2, q40, q41, q42, q43, q44, Option.toList_some, Option.toList_none, List.cons_append, List.nil_append, w54_1, xp_W_fittingRows, w84, v4 hj, c10 (show j < 10 by omega), rfj hj]
    refine X_listen hX hI (SHj hj) e2 hN.2 (fun q hq => (hS j hj).2.2 q (by have := hN.2; omega)) (fun σ' hW g8 _ _ => ?_)
    simp only [wL0, wLc, true_and, w2, lg0, lgi, lgr, lgl, w35, kX0, rX0_3, rX0_6, kX53, nX53, w1, w42, w54_2, q40, q41, q42, q43, q44, Option.toList_some, Option.toList_none, List.cons_append, List.nil_append, w54_1, xp_W_fittingRows, w84, g8]
    exact h3 j hj rfl z σ' hW
theorem X_maybe {s : Int32} {W N C : Nat → Int32} (hX : XC σ 1 S) (hI : Inv S) (hS : ∀ j, j < 4 → XS σ j W N C) (hSh : ShI W N) (h1 : ¬ rgI s 0 3 → K (some (.int (-1000001))) (noX σ 0)) (h2 : ∀ j, j < 4 → s = nI j → W j = 0 → K (some (.int (-1000006))) (noX σ 5)) (h3 : ∀ j, j < 4 → s = nI j → ¬ W j = 0 → (¬ ∃ t, t < 1024 ∧ hcL S (fun i => C (40 * j + i)) (m8 (nv N j)) (m8 (nv N j)) t ≠ 0) → ∀ σ', Wf σ σ' → K (some (.int (-1000004))) (noX σ' 3)) (h4 : ∀ j, j < 4 → s = nI j → ¬ W j = 0 → (∃ t, t < 1024 ∧ hcL S (fun i => C (40 * j + i)) (m8 (nv N j)) (m8 (nv N j)) t ≠ 0) → ∀ σ', Wf σ σ' → K (some (.int (nI (orU (fun t => cif (hcL S (fun i => C (40 * j + i)) (m8 (nv N j)) (m8 (nv N j)) t ≠ 0) t 0) 1024)))) σ') : Rn 0 ev mX_maybe [.ref 0, .int s] σ K := by
  refine Rn_V (by decide) rc5 rfl rfl ?_
  refine PW_blk okX_maybe 0 rfl SpX_ok ?_
  simp only [wL0, wLc, true_and, w2, lg0, lgi, lgr, lgl, w1, w54_2, q40, q41, q42, q43, q44, Option.toList_some, Option.toList_none, List.cons_append, List.nil_append, w4, ls00, ls0i, ls0r, ls0l, lsi, lsr, lsl, Option.map_some, w72]
  refine X_sheetFinding hS (fun z => ?_) (fun j hj e z => ?_) (fun j hj e z => ?_)
  · simp only [wL0, wLc, true_and, w2, lg0, lgi, lgr, lgl, w1, w54_2, q40, q41, q42, q43, q44, Option.toList_some, Option.toList_none, List.cons_append, List.nil_append, w4, ls00, ls0i, ls0r, ls0l, lsi, lsr, lsl, Option.map_some, w72]
    refine b2N (by decide) ?_
    refine PW_blk okX_maybe 1 rfl SpX_ok ?_
    simp only [wL0, wLc, true_and, w2, lg0, lgi, lgr, lgl, w1, w54_2, q40, q41, q42, q43, q44, Option.toList_some, Option.toList_none, List.cons_append, List.nil_append, xp_X_tell, tl0, tl1, tl2, tl3, tl4, tl5, tl6, tq0, tq1, tq2, tq3, tq4, tq5, tq6, w84]
    exact h1 z
  · simp only [wL0, wLc, true_and, w2, lg0, lgi, lgr, lgl, w1, w54_2, q40, q41, q42, q43, q44, Option.toList_some, Option.toList_none, List.cons_append, List.nil_append, w4, ls00, ls0i, ls0r, ls0l, lsi, lsr, lsl, Option.map_some, w72]
    refine b2N (by decide) ?_
    refine PW_blk okX_maybe 1 rfl SpX_ok ?_
    simp only [wL0, wLc, true_and, w2, lg0, lgi, lgr, lgl, w1, w54_2, q40, q41, q42, q43, q44, Option.toList_some, Option.toList_none, List.cons_append, List.nil_append, xp_X_tell, tl0, tl1, tl2, tl3, tl4, tl5, tl6, tq0, tq1, tq2, tq3, tq4, tq5, tq6, w84]
    exact h2 j hj e z
  · subst e
    simp only [wL0, wLc, true_and, w2, lg0, lgi, lgr, lgl, w1, w54_2, q40, q41, q42, q43, q44, Option.toList_some, Option.toList_none, List.cons_append, List.nil_append, w4, ls00, ls0i, ls0r, ls0l, lsi, lsr, lsl, Option.map_some, w72]
    refine b2Y trivial ?_
    have hN := (hSh j hj).2
    have e2 : σ.1 (54 + 2 * j) 2 = nI (nv N j) := (hS j hj).2.1.trans hN.1
    have hsum := hcL_sum (S := S) (C := fun i => C (40 * j + i)) (m := m8 (nv N j)) hI
    refine PW_blk okX_maybe 2 rfl SpX_ok ?_
    simp only [wL0, wLc, true_and, w2, lg0, lgi, lgr, lgl, w35, kX0, rX0_3, rX0_6, kX53, nX53, w1, w42, w54_2, q40, q41, q42, q43, q44, Option.toList_some, Option.toList_none, List.cons_append, List.nil_append, w54_1, xp_W_fittingRows, w73, v4 hj, c10 (show j < 10 by omega), rfj hj]
    refine X_listen hX hI (SHj hj) e2 hN.2 (fun q hq => (hS j hj).2.2 q (by have := hN.2; omega)) (fun σ' hW g8 g9 g10 => ?_)
    simp only [wL0, wLc, true_and, w2, lg0, lgi, lgr, lgl, w35, kX0, rX0_3, rX0_6, kX53, nX53, w1, w42, w54_2, q40, q41, q42, q43, q44, Option.toList_some, Option.toList_none, List.cons_append, List.nil_append, w54_1, xp_W_fittingRows, w73, g8]
    rw [nI_z (by omega)]
    by_cases c : suU (hcL S (fun i => C (40 * j + i)) (m8 (nv N j)) (m8 (nv N j))) 1024 = 0
    · refine b3Y c ?_
      refine PW_blk okX_maybe 3 rfl SpX_ok ?_
      simp only [wL0, wLc, true_and, w2, lg0, lgi, lgr, lgl, w0, w54_2, q40, q41, q42, q43, q44, Option.toList_some, Option.toList_none, List.cons_append, List.nil_append, xp_X_tell, tl0, tl1, tl2, tl3, tl4, tl5, tl6, tq0, tq1, tq2, tq3, tq4, tq5, tq6, w70]
      refine PW_blk okX_maybe 5 rfl SpX_ok ?_
      simp only [wL0, w84]
      exact h3 j hj rfl z (fun y => (suU_pos 1024).mpr y c) σ' hW
    · refine b3N c ?_
      have hex := (suU_pos 1024).mp c
      refine PW_blk okX_maybe 4 rfl SpX_ok ?_
      simp only [wL0, wLc, true_and, w2, lg0, lgi, lgr, lgl, w35, kX0, rX0_3, w54_1, q40, q41, q42, q43, q44, Option.toList_some, Option.toList_none, List.cons_append, List.nil_append, xp_W_fittingAny, w71, g9]
      refine PW_blk okX_maybe 5 rfl SpX_ok ?_
      simp only [wL0, w84]
      exact h4 j hj rfl z hex σ' hW
theorem X_surely {s : Int32} {W N C : Nat → Int32} (hX : XC σ 1 S) (hI : Inv S) (hS : ∀ j, j < 4 → XS σ j W N C) (hSh : ShI W N) (h1 : ¬ rgI s 0 3 → K (some (.int (-1000001))) (noX σ 0)) (h2 : ∀ j, j < 4 → s = nI j → W j = 0 → K (some (.int (-1000006))) (noX σ 5)) (h3 : ∀ j, j < 4 → s = nI j → ¬ W j = 0 → (¬ ∃ t, t < 1024 ∧ hcL S (fun i => C (40 * j + i)) (m8 (nv N j)) (m8 (nv N j)) t ≠ 0) → ∀ σ', Wf σ σ' → K (some (.int (-1000004))) (noX σ' 3)) (h4 : ∀ j, j < 4 → s = nI j → ¬ W j = 0 → (∃ t, t < 1024 ∧ hcL S (fun i => C (40 * j + i)) (m8 (nv N j)) (m8 (nv N j)) t ≠ 0) → ∀ σ', Wf σ σ' → K (some (.int (nI (alU 1023 (fun t => hcL S (fun i => C (40 * j + i)) (m8 (nv N j)) (m8 (nv N j)) t ≠ 0) 1024)))) σ') : Rn 0 ev mX_surely [.ref 0, .int s] σ K := by
  refine Rn_V (by decide) rc5 rfl rfl ?_
  refine PW_blk okX_surely 0 rfl SpX_ok ?_
  simp only [wL0, wLc, true_and, w2, lg0, lgi, lgr, lgl, w1, w54_2, q40, q41, q42, q43, q44, Option.toList_some, Option.toList_none, List.cons_append, List.nil_append, w4, ls00, ls0i, ls0r, ls0l, lsi, lsr, lsl, Option.map_some, w72]
  refine X_sheetFinding hS (fun z => ?_) (fun j hj e z => ?_) (fun j hj e z => ?_)
  · simp only [wL0, wLc, true_and, w2, lg0, lgi, lgr, lgl, w1, w54_2, q40, q41, q42, q43, q44, Option.toList_some, Option.toList_none, List.cons_append, List.nil_append, w4, ls00, ls0i, ls0r, ls0l, lsi, lsr, lsl, Option.map_some, w72]
    refine b2N (by decide) ?_
    refine PW_blk okX_surely 1 rfl SpX_ok ?_
    simp only [wL0, wLc, true_and, w2, lg0, lgi, lgr, lgl, w1, w54_2, q40, q41, q42, q43, q44, Option.toList_some, Option.toList_none, List.cons_append, List.nil_append, xp_X_tell, tl0, tl1, tl2, tl3, tl4, tl5, tl6, tq0, tq1, tq2, tq3, tq4, tq5, tq6, w84]
    exact h1 z
  · simp only [wL0, wLc, true_and, w2, lg0, lgi, lgr, lgl, w1, w54_2, q40, q41, q42, q43, q44, Option.toList_some, Option.toList_none, List.cons_append, List.nil_append, w4, ls00, ls0i, ls0r, ls0l, lsi, lsr, lsl, Option.map_some, w72]
    refine b2N (by decide) ?_
    refine PW_blk okX_surely 1 rfl SpX_ok ?_
    simp only [wL0, wLc, true_and, w2, lg0, lgi, lgr, lgl, w1, w54_2, q40, q41, q42, q43, q44, Option.toList_some, Option.toList_none, List.cons_append, List.nil_append, xp_X_tell, tl0, tl1, tl2, tl3, tl4, tl5, tl6, tq0, tq1, tq2, tq3, tq4, tq5, tq6, w84]
    exact h2 j hj e z
  · subst e
    simp only [wL0, wLc, true_and, w2, lg0, lgi, lgr, lgl, w1, w54_2, q40, q41, q42, q43, q44, Option.toList_some, Option.toList_none, List.cons_append, List.nil_append, w4, ls00, ls0i, ls0r, ls0l, lsi, lsr, lsl, Option.map_some, w72]
    refine b2Y trivial ?_
    have hN := (hSh j hj).2
    have e2 : σ.1 (54 + 2 * j) 2 = nI (nv N j) := (hS j hj).2.1.trans hN.1
    have hsum := hcL_sum (S := S) (C := fun i => C (40 * j + i)) (m := m8 (nv N j)) hI
    refine PW_blk okX_surely 2 rfl SpX_ok ?_
    simp only [wL0, wLc, true_and, w2, lg0, lgi, lgr, lgl, w35, kX0, rX0_3, rX0_6, kX53, nX53, w1, w42, w54_2, q40, q41, q42, q43, q44, Option.toList_some, Option.toList_none, List.cons_append, List.nil_append, w54_1, xp_W_fittingRows, w73, v4 hj, c10 (show j < 10 by omega), rfj hj]
    refine X_listen hX hI (SHj hj) e2 hN.2 (fun q hq => (hS j hj).2.2 q (by have := hN.2; omega)) (fun σ' hW g8 g9 g10 => ?_)
    simp only [wL0, wLc, true_and, w2, lg0, lgi, lgr, lgl, w35, kX0, rX0_3, rX0_6, kX53, nX53, w1, w42, w54_2, q40, q41, q42, q43, q44, Option.toList_some, Option.toList_none, List.cons_append, List.nil_append, w54_1, xp_W_fittingRows, w73, g8]
    rw [nI_z (by omega)]
    by_cases c : suU (hcL S (fun i => C (40 * j + i)) (m8 (nv N j)) (m8 (nv N j))) 1024 = 0
    · refine b3Y c ?_
      refine PW_blk okX_surely 3 rfl SpX_ok ?_
      simp only [wL0, wLc, true_and, w2, lg0, lgi, lgr, lgl, w0, w54_2, q40, q41, q42, q43, q44, Option.toList_some, Option.toList_none, List.cons_append, List.nil_append, xp_X_tell, tl0, tl1, tl2, tl3, tl4, tl5, tl6, tq0, tq1, tq2, tq3, tq4, tq5, tq6, w70]
      refine PW_blk okX_surely 5 rfl SpX_ok ?_
      simp only [wL0, w84]
      exact h3 j hj rfl z (fun y => (suU_pos 1024).mpr y c) σ' hW
    · refine b3N c ?_
      have hex := (suU_pos 1024).mp c
      refine PW_blk okX_surely 4 rfl SpX_ok ?_
      simp only [wL0, wLc, true_and, w2, lg0, lgi, lgr, lgl, w35, kX0, rX0_3, w54_1, q40, q41, q42, q43, q44, Option.toList_some, Option.toList_none, List.cons_append, List.nil_append, xp_W_fittingAll, w71, g10]
      refine PW_blk okX_surely 5 rfl SpX_ok ?_
      simp only [wL0, w84]
      rw [alU_eq hI.1.2 hex (fun t _ h => hcL_lt hI h)]
      exact h4 j hj rfl z hex σ' hW
theorem X_hear {v : Int32} (hX : XC σ 1 S) (hI : Inv S) (h1 : ¬ rgI v 0 99 → K (some (.int (-1000001))) (noX σ 0)) (h2 : rgI v 0 99 → K (some (.int (nI (hlN S v (nv S 2))))) σ) : Rn 0 ev mX_hear [.ref 0, .int v] σ K := by
  have hc := CH1
  have hn10 := hI.1.2
  have hp2 := p2le _ hn10
  have hlt : nv S 2 < 1024 := by have := hI.2.1.1.2; omega
  have hml := mayN_lt S (nv S 2)
  refine Rn_V (by decide) rc5 rfl rfl ?_
  refine PW_blk okX_hear 0 rfl SpX_ok ?_
  simp only [wL0, wLc, true_and, w1, lg0, lgi, lgr, lgl, w74]
  have no : ¬ rgI v 0 99 → PW 0 ev mX_hear 10 [.ref 0, .int v] [] σ K := by
    intro z
    refine PW_blk okX_hear 2 rfl SpX_ok ?_
    simp only [wL0, wLc, true_and, w2, lg0, lgi, lgr, lgl, w0, w54_2, q40, q41, q42, q43, q44, Option.toList_some, Option.toList_none, List.cons_append, List.nil_append, xp_X_tell, tl0, tl1, tl2, tl3, tl4, tl5, tl6, tq0, tq1, tq2, tq3, tq4, tq5, tq6, w84]
    exact h1 z
  by_cases c1 : v < 0
  · exact b2Y c1 (no (rg_neg (by decide) c1))
  refine b2N c1 ?_
  obtain ⟨w, hw, e⟩ := ge0 c1
  refine PW_blk okX_hear 1 rfl SpX_ok ?_
  simp only [wL0, wLc, true_and, w1, lg0, lgi, lgr, lgl, w0, w83]
  by_cases c2 : (99 : Int32) < v
  · refine b3Y c2 (no ?_)
    rw [e, show (99 : Int32) = nI 99 from rfl, nI_lt_iff (by decide) hw] at c2
    rw [e]
    exact rg_big hw c2 (by decide)
  refine b3N c2 ?_
  have hr : rgI v 0 99 := by
    rw [e, show (99 : Int32) = nI 99 from rfl, nI_lt_iff (by decide) hw] at c2
    exact ⟨w, Nat.zero_le _, by omega, e⟩
  have hkk := h2 hr
  refine PW_blk okX_hear 3 rfl SpX_ok ?_
  simp only [wL0, wLc, true_and, w2, lg0, lgi, lgr, lgl, w35, kX0, rX0_0, w33, CH_k hc, w54_2, q40, q41, q42, q43, q44, Option.toList_some, Option.toList_none, List.cons_append, List.nil_append, w4, ls00, ls0i, ls0r, ls0l, lsi, lsr, lsl, Option.map_some, w0, w71, x4 hX hI]
  refine X_mayAt hc hX hI hlt ?_
  simp only [wL0, wLc, true_and, w2, lg0, lgi, lgr, lgl, w35, kX0, rX0_0, w33, CH_k hc, w54_2, q40, q41, q42, q43, q44, Option.toList_some, Option.toList_none, List.cons_append, List.nil_append, w4, ls00, ls0i, ls0r, ls0l, lsi, lsr, lsl, Option.map_some, w0, w71]
  have key := lp_up (n := nv S 3) (P := fun k => ∀ M, M < 1024 → (∀ i, M.testBit i = true ↔ (mayN S (nv S 2)).testBit i = true ∧ (i < k → nI (soundN S i) = v)) → PW 0 ev mX_hear 34 [.ref 0, .int v, .int (nI M), .int (nI k)] [] σ K) ?_ ?_ 0 (Nat.zero_le _) (mayN S (nv S 2)) (by omega) (fun i => ⟨fun h => ⟨h, fun h2 => absurd h2 (Nat.not_lt_zero i)⟩, fun h => h.1⟩)
  · exact key
  · intro M hM hb
    refine PW_blk okX_hear 4 rfl SpX_ok ?_
    simp only [wL0, wLc, true_and, w1, lg0, lgi, lgr, lgl, w2, w35, kX0, rX0_0, w33, CH_k hc, w81, x3 hX hI]
    refine b3N (nI_nlt (Nat.le_refl _) (by omega)) ?_
    refine PW_blk okX_hear 8 rfl SpX_ok ?_
    simp only [wL0, wLc, true_and, w1, lg0, lgi, lgr, lgl, w84]
    have em : M = hlN S v (nv S 2) := by
      apply Nat.eq_of_testBit_eq
      intro i
      unfold hlN
      rw [Bool.eq_iff_iff, hb, biU_bit, mayN_bit]
      unfold hlP
      exact ⟨fun z => ⟨z.1.1, z.1.2, z.2 z.1.1⟩, fun z => ⟨⟨z.1, z.2.1⟩, fun _ => z.2.2⟩⟩
    rw [em]
    exact hkk
  · intro k hk2 ih M hM hb
    have next : ∀ M', M' < 1024 → (∀ i, M'.testBit i = true ↔ (mayN S (nv S 2)).testBit i = true ∧ (i < k + 1 → nI (soundN S i) = v)) → PW 0 ev mX_hear 65 [.ref 0, .int v, .int (nI M'), .int (nI k)] [] σ K := by
      intro M' h1 h2
      refine PW_blk okX_hear 7 rfl SpX_ok ?_
      simp only [wL0, wLc, true_and, w7, lg0, lgi, lgr, lgl, ls00, ls0i, ls0r, ls0l, lsi, lsr, lsl, Option.map_some, w70]
      rw [show (1 : Int32) = nI 1 from rfl, nI_add]
      exact ih M' h1 h2
    refine PW_blk okX_hear 4 rfl SpX_ok ?_
    simp only [wL0, wLc, true_and, w1, lg0, lgi, lgr, lgl, w2, w35, kX0, rX0_0, w33, CH_k hc, w81, x3 hX hI]
    refine b3Y (nI_lt hk2 (by omega)) ?_
    refine PW_blk okX_hear 5 rfl SpX_ok ?_
    simp only [wL0, wLc, true_and, w2, lg0, lgi, lgr, lgl, w35, kX0, rX0_0, w1, w54_2, q40, q41, q42, q43, q44, Option.toList_some, Option.toList_none, List.cons_append, List.nil_append, w78]
    refine X_sounds hc hX hI hk2 ?_
    simp only [wL0, wLc, true_and, w2, lg0, lgi, lgr, lgl, w35, kX0, rX0_0, w1, w54_2, q40, q41, q42, q43, q44, Option.toList_some, Option.toList_none, List.cons_append, List.nil_append, w78]
    by_cases c3 : nI (soundN S k) = v
    · refine b2Y c3 (next M hM (fun i => ?_))
      rw [hb]
      refine ⟨fun z => ⟨z.1, fun y => ?_⟩, fun z => ⟨z.1, fun y => z.2 (by omega)⟩⟩
      by_cases e : i = k
      · subst e; exact c3
      · exact z.2 (by omega)
    · refine b2N c3 ?_
      have hdl := dif_le M (2 ^ k)
      refine PW_blk okX_hear 6 rfl SpX_ok ?_
      simp only [wL0, wLc, true_and, w1, lg0, lgi, lgr, lgl, w0, w19, w18, w16, w4, ls00, ls0i, ls0r, ls0l, lsi, lsr, lsl, Option.map_some, w71, nI_sh1 k (by omega), dif_I]
      refine next _ (by omega) (fun i => ?_)
      rw [dif_bit i (by omega), Bool.and_eq_true, hb, Nat.testBit_two_pow]
      constructor
      · intro ⟨⟨a, b⟩, d⟩
        refine ⟨a, fun y => ?_⟩
        by_cases e : i = k
        · subst e; simp at d
        · exact b (by omega)
      · intro ⟨a, b⟩
        refine ⟨⟨a, fun y => b (by omega)⟩, ?_⟩
        by_cases e : k = i
        · subst e; exact absurd (b (by omega)) c3
        · simp [e]
theorem X_lock {kind : Int32} (hX : XC σ 1 S) (hI : Inv S) (h1 : ¬ rgI kind 0 6 → K (some (.int (-1000001))) (noX σ 0)) (h2 : rgI kind 0 6 → nv S 3 = 10 → K (some (.int (-1000002))) (noX σ 1)) (h3 : rgI kind 0 6 → nv S 3 < 10 → ∀ σ', Cf 1 σ σ' → XC σ' 1 (cmS S kind) → K (some (.int (nI (nv S 3)))) σ') : Rn 0 ev mX_lock [.ref 0, .int kind] σ K := by
  have hc := CH1
  have hn10 := hI.1.2
  refine Rn_V (by decide) rc5 rfl rfl ?_
  refine PW_blk okX_lock 0 rfl SpX_ok ?_
  simp only [wL0, wLc, true_and, w1, lg0, lgi, lgr, lgl, w55_1, q40, q41, q42, q43, q44, Option.toList_some, Option.toList_none, List.cons_append, List.nil_append, xp_C_isKind, w73]
  by_cases hr : ∃ n, n < 7 ∧ kind = nI n
  rotate_left
  · refine dN (in0N (m := 7) (by decide) hr) ?_
    refine PW_blk okX_lock 1 rfl SpX_ok ?_
    simp only [wL0, wLc, true_and, w2, lg0, lgi, lgr, lgl, w0, w54_2, q40, q41, q42, q43, q44, Option.toList_some, Option.toList_none, List.cons_append, List.nil_append, xp_X_tell, tl0, tl1, tl2, tl3, tl4, tl5, tl6, tq0, tq1, tq2, tq3, tq4, tq5, tq6, w84]
    exact h1 (fun z => hr (rg_lt.mp z))
  refine dY (in0Y (m := 7) (by decide) hr) ?_
  have hr' : rgI kind 0 6 := rg_lt.mpr hr
  obtain ⟨kd, hkd, rfl⟩ := hr
  refine PW_blk okX_lock 2 rfl SpX_ok ?_
  simp only [wL0, wLc, true_and, w2, lg0, lgi, lgr, lgl, w35, kX0, rX0_0, w33, CH_k hc, w0, w80, x3 hX hI]
  rw [show (10 : Int32) = nI 10 from rfl, nI_lt_iff (by omega) (by decide)]
  by_cases c : nv S 3 < 10
  · refine b2Y c ?_
    refine PW_blk okX_lock 4 rfl SpX_ok ?_
    simp only [wL0, wLc, true_and, w2, lg0, lgi, lgr, lgl, w35, kX0, rX0_0, w1, w54_2, q40, q41, q42, q43, q44, Option.toList_some, Option.toList_none, List.cons_append, List.nil_append, w84]
    refine X_add hc hX hI c (by omega) (fun σ' hC hX' => ?_)
    simp only [wL0, wLc, true_and, w2, lg0, lgi, lgr, lgl, w35, kX0, rX0_0, w1, w54_2, q40, q41, q42, q43, q44, Option.toList_some, Option.toList_none, List.cons_append, List.nil_append, w84]
    exact h3 hr' c σ' hC hX'
  · refine b2N c ?_
    refine PW_blk okX_lock 3 rfl SpX_ok ?_
    simp only [wL0, wLc, true_and, w2, lg0, lgi, lgr, lgl, w0, w54_2, q40, q41, q42, q43, q44, Option.toList_some, Option.toList_none, List.cons_append, List.nil_append, xp_X_tell, tl0, tl1, tl2, tl3, tl4, tl5, tl6, tq0, tq1, tq2, tq3, tq4, tq5, tq6, w84]
    exact h2 hr' (by omega)
theorem X_of {l what : Int32} (hX : XC σ 1 S) (hI : Inv S) (h1 : ¬ (hasL S l ∧ rgI what 0 12) → K (some (.int (-1000001))) (noX σ 0)) (h2 : ∀ k w, k < nv S 3 → l = nI k → w ≤ 12 → what = nI w → K (some (.int (ofF S k w))) σ) : Rn 0 ev mX_of [.ref 0, .int l, .int what] σ K := by
  have hc := CH1
  have hn10 := hI.1.2
  have hp2 := p2le _ hn10
  have hlt : nv S 2 < 1024 := by have := hI.2.1.1.2; omega
  refine Rn_V (by decide) rc5 rfl rfl ?_
  have no : ¬ (hasL S l ∧ rgI what 0 12) → PW 0 ev mX_of 21 [.ref 0, .int l, .int what] [] σ K := by
    intro z
    refine PW_blk okX_of 3 rfl SpX_ok ?_
    simp only [wL0, wLc, true_and, w2, lg0, lgi, lgr, lgl, w0, w54_2, q40, q41, q42, q43, q44, Option.toList_some, Option.toList_none, List.cons_append, List.nil_append, xp_X_tell, tl0, tl1, tl2, tl3, tl4, tl5, tl6, tq0, tq1, tq2, tq3, tq4, tq5, tq6, w84]
    exact h1 z
  refine PW_blk okX_of 0 rfl SpX_ok ?_
  simp only [wL0, wLc, true_and, w2, lg0, lgi, lgr, lgl, w35, kX0, rX0_0, w1, w54_2, q40, q41, q42, q43, q44, Option.toList_some, Option.toList_none, List.cons_append, List.nil_append, xp_C_has, CH_e hc, w72, x3 hX hI]
  by_cases hl : hasL S l
  rotate_left
  · exact bN (hasS' hn10 hl) (no (fun z => hl z.1))
  refine bY (hasS hn10 hl) ?_
  refine PW_blk okX_of 1 rfl SpX_ok ?_
  simp only [wL0, wLc, true_and, w1, lg0, lgi, lgr, lgl, w74]
  by_cases c1 : what < 0
  · exact b2Y c1 (no (fun z => rg_neg (by decide) c1 z.2))
  refine b2N c1 ?_
  obtain ⟨w, hw, rfl⟩ := ge0 c1
  refine PW_blk okX_of 2 rfl SpX_ok ?_
  simp only [wL0, wLc, true_and, w1, lg0, lgi, lgr, lgl, w0, w83]
  rw [show (12 : Int32) = nI 12 from rfl, nI_lt_iff (by decide) hw]
  by_cases c2 : 12 < w
  · exact b3Y c2 (no (fun z => rg_big hw c2 (by decide) z.2))
  refine b3N c2 ?_
  obtain ⟨k, hk, rfl⟩ := hl
  have hkk := h2 k w hk rfl (by omega) rfl
  unfold ofF at hkk
  refine PW_blk okX_of 4 rfl SpX_ok ?_
  simp only [wL0, wLc, true_and, w1, lg0, lgi, lgr, lgl, w0, w79]
  rw [show (10 : Int32) = nI 10 from rfl, nI_eq_iff hw (by decide)]
  by_cases c10' : w = 10
  · subst c10'
    rw [if_neg (by decide), if_pos rfl] at hkk
    refine b3Y rfl ?_
    refine PW_blk okX_of 5 rfl SpX_ok ?_
    simp only [wL0, wLc, true_and, w2, lg0, lgi, lgr, lgl, w35, kX0, rX0_0, w1, w54_2, q40, q41, q42, q43, q44, Option.toList_some, Option.toList_none, List.cons_append, List.nil_append, xp_C_isOff, CH_e hc, w72, x4 hX hI]
    unfold isNF
    rw [bit1 (by omega) (by omega)]
    by_cases hb : (nv S 2).testBit k = true
    · rw [if_pos hb] at hkk
      rw [if_pos hb, if_neg (by decide)]
      refine b2N (by decide) ?_
      refine PW_blk okX_of 6 rfl SpX_ok ?_
      simp only [wL0, wLc, true_and, w0, w70]
      refine PW_blk okX_of 8 rfl SpX_ok ?_
      simp only [wL0, w84]
      exact hkk
    · rw [if_neg hb] at hkk
      rw [if_neg hb, if_pos rfl]
      refine b2Y rfl ?_
      refine PW_blk okX_of 7 rfl SpX_ok ?_
      simp only [wL0, wLc, true_and, w0, w71]
      refine PW_blk okX_of 8 rfl SpX_ok ?_
      simp only [wL0, w84]
      exact hkk
  refine b3N c10' ?_
  refine PW_blk okX_of 9 rfl SpX_ok ?_
  simp only [wL0, wLc, true_and, w1, lg0, lgi, lgr, lgl, w0, w79]
  rw [show (11 : Int32) = nI 11 from rfl, nI_eq_iff hw (by decide)]
  by_cases c11 : w = 11
  · subst c11
    rw [if_neg (by decide), if_neg (by decide), if_pos rfl] at hkk
    refine b3Y rfl ?_
    refine PW_blk okX_of 10 rfl SpX_ok ?_
    simp only [wL0, wLc, true_and, w2, lg0, lgi, lgr, lgl, w35, kX0, rX0_0, w1, w54_2, q40, q41, q42, q43, q44, Option.toList_some, Option.toList_none, List.cons_append, List.nil_append, w84]
    refine X_takesNow hc hX hI hk ?_
    simp only [wL0, wLc, true_and, w2, lg0, lgi, lgr, lgl, w35, kX0, rX0_0, w1, w54_2, q40, q41, q42, q43, q44, Option.toList_some, Option.toList_none, List.cons_append, List.nil_append, w84]
    exact hkk
  refine b3N c11 ?_
  refine PW_blk okX_of 11 rfl SpX_ok ?_
  simp only [wL0, wLc, true_and, w1, lg0, lgi, lgr, lgl, w0, w79]
  rw [show (12 : Int32) = nI 12 from rfl, nI_eq_iff hw (by decide)]
  by_cases c12 : w = 12
  · subst c12
    rw [if_neg (by decide), if_neg (by decide), if_neg (by decide)] at hkk
    refine b3Y rfl ?_
    refine PW_blk okX_of 12 rfl SpX_ok ?_
    simp only [wL0, wLc, true_and, w2, lg0, lgi, lgr, lgl, w35, kX0, rX0_0, w1, w54_2, q40, q41, q42, q43, q44, Option.toList_some, Option.toList_none, List.cons_append, List.nil_append, w70]
    refine X_sounds hc hX hI hk ?_
    simp only [wL0, wLc, true_and, w2, lg0, lgi, lgr, lgl, w35, kX0, rX0_0, w1, w54_2, q40, q41, q42, q43, q44, Option.toList_some, Option.toList_none, List.cons_append, List.nil_append, w70]
    refine PW_blk okX_of 14 rfl SpX_ok ?_
    simp only [wL0, w84]
    exact hkk
  refine b3N c12 ?_
  rw [if_pos (show w < 10 by omega)] at hkk
  refine PW_blk okX_of 13 rfl SpX_ok ?_
  simp only [wL0, wLc, true_and, w2, lg0, lgi, lgr, lgl, w35, kX0, rX0_0, w1, w54_3, q40, q41, q42, q43, q44, Option.toList_some, Option.toList_none, List.cons_append, List.nil_append, w71]
  refine X_trait hc hX hI hk (show w < 10 by omega) ?_
  simp only [wL0, wLc, true_and, w2, lg0, lgi, lgr, lgl, w35, kX0, rX0_0, w1, w54_3, q40, q41, q42, q43, q44, Option.toList_some, Option.toList_none, List.cons_append, List.nil_append, w71]
  refine PW_blk okX_of 14 rfl SpX_ok ?_
  simp only [wL0, w84]
  exact hkk
theorem X_change {l what v : Int32} (hX : XC σ 1 S) (hI : Inv S) (h1 : ¬ okC S l what v → K (some (.int (-1000001))) (noX σ 0)) (h2 : ∀ k w n, k < nv S 3 → l = nI k → w ≤ 9 → what = nI w → leastN w ≤ n → n ≤ mostN S w → v = nI n → ∀ σ', Cf 1 σ σ' → XC σ' 1 (upd S (tr k w) (nI n)) → K (some (.int (S (tr k w)))) σ') : Rn 0 ev mX_change [.ref 0, .int l, .int what, .int v] σ K := by
  have hc := CH1
  have hn10 := hI.1.2
  refine Rn_V (by decide) rc5 rfl rfl ?_
  have no : ¬ okC S l what v → PW 0 ev mX_change 23 [.ref 0, .int l, .int what, .int v] [] σ K := by
    intro z
    refine PW_blk okX_change 2 rfl SpX_ok ?_
    simp only [wL0, wLc, true_and, w2, lg0, lgi, lgr, lgl, w0, w54_2, q40, q41, q42, q43, q44, Option.toList_some, Option.toList_none, List.cons_append, List.nil_append, xp_X_tell, tl0, tl1, tl2, tl3, tl4, tl5, tl6, tq0, tq1, tq2, tq3, tq4, tq5, tq6, w84]
    exact h1 z
  refine PW_blk okX_change 0 rfl SpX_ok ?_
  simp only [wL0, wLc, true_and, w2, lg0, lgi, lgr, lgl, w35, kX0, rX0_0, w1, w54_2, q40, q41, q42, q43, q44, Option.toList_some, Option.toList_none, List.cons_append, List.nil_append, xp_C_has, CH_e hc, w72, x3 hX hI]
  by_cases hl : hasL S l
  rotate_left
  · exact bN (hasS' hn10 hl) (no (fun ⟨k, w, n, a, b, _⟩ => hl ⟨k, a, b⟩))
  refine bY (hasS hn10 hl) ?_
  obtain ⟨k, hk, rfl⟩ := hl
  refine PW_blk okX_change 1 rfl SpX_ok ?_
  simp only [wL0, wLc, true_and, w2, lg0, lgi, lgr, lgl, w35, kX0, rX0_0, w1, w54_3, q40, q41, q42, q43, q44, Option.toList_some, Option.toList_none, List.cons_append, List.nil_append, w73]
  refine X_allows hc hX hI (fun z => ?_) (fun w n hw e a b d => ?_)
  · simp only [wL0, wLc, true_and, w2, lg0, lgi, lgr, lgl, w35, kX0, rX0_0, w1, w54_3, q40, q41, q42, q43, q44, Option.toList_some, Option.toList_none, List.cons_append, List.nil_append, w73]
    refine b3Y trivial ?_
    exact no (fun ⟨k', w, n, _, _, q⟩ => z ⟨w, n, q⟩)
  · subst e d
    simp only [wL0, wLc, true_and, w2, lg0, lgi, lgr, lgl, w35, kX0, rX0_0, w1, w54_3, q40, q41, q42, q43, q44, Option.toList_some, Option.toList_none, List.cons_append, List.nil_append, w73]
    refine b3N (by decide) ?_
    refine PW_blk okX_change 3 rfl SpX_ok ?_
    simp only [wL0, wLc, true_and, w2, lg0, lgi, lgr, lgl, w35, kX0, rX0_0, w1, w54_4, q40, q41, q42, q43, q44, Option.toList_some, Option.toList_none, List.cons_append, List.nil_append, w84]
    refine X_putTrait hc hX hI hk (show w < 10 by omega) ?_
    simp only [wL0, wLc, true_and, w2, lg0, lgi, lgr, lgl, w35, kX0, rX0_0, w1, w54_4, q40, q41, q42, q43, q44, Option.toList_some, Option.toList_none, List.cons_append, List.nil_append, w84]
    exact h2 k w n hk rfl hw rfl a b rfl _ (Cf_sr (by omega) Cf_r) (XC_t (by omega) (by omega) hX)
theorem X_rule {what v : Int32} (hX : XC σ 1 S) (hI : Inv S) (h1 : ¬ okR S what v → K (some (.int (-1000001))) (noX σ 0)) (h2 : ∀ w n, w ≤ 4 → what = nI w → n ≤ mostR S w → v = nI n → ∀ σ', Cf 1 σ σ' → XC σ' 1 (upd S (4 + w) (nI n)) → K (some (.int (S (4 + w)))) σ') : Rn 0 ev mX_rule [.ref 0, .int what, .int v] σ K := by
  have hc := CH1
  refine Rn_V (by decide) rc5 rfl rfl ?_
  refine PW_blk okX_rule 0 rfl SpX_ok ?_
  simp only [wL0, wLc, true_and, w2, lg0, lgi, lgr, lgl, w35, kX0, rX0_0, w1, w54_3, q40, q41, q42, q43, q44, Option.toList_some, Option.toList_none, List.cons_append, List.nil_append, w73]
  refine X_allowsRule hc hX hI (fun z => ?_) (fun w n hw e a d => ?_)
  · simp only [wL0, wLc, true_and, w2, lg0, lgi, lgr, lgl, w35, kX0, rX0_0, w1, w54_3, q40, q41, q42, q43, q44, Option.toList_some, Option.toList_none, List.cons_append, List.nil_append, w73]
    refine b3Y trivial ?_
    refine PW_blk okX_rule 1 rfl SpX_ok ?_
    simp only [wL0, wLc, true_and, w2, lg0, lgi, lgr, lgl, w0, w54_2, q40, q41, q42, q43, q44, Option.toList_some, Option.toList_none, List.cons_append, List.nil_append, xp_X_tell, tl0, tl1, tl2, tl3, tl4, tl5, tl6, tq0, tq1, tq2, tq3, tq4, tq5, tq6, w84]
    exact h1 z
  · subst e d
    simp only [wL0, wLc, true_and, w2, lg0, lgi, lgr, lgl, w35, kX0, rX0_0, w1, w54_3, q40, q41, q42, q43, q44, Option.toList_some, Option.toList_none, List.cons_append, List.nil_append, w73]
    refine b3N (by decide) ?_
    refine PW_blk okX_rule 2 rfl SpX_ok ?_
    simp only [wL0, wLc, true_and, w2, lg0, lgi, lgr, lgl, w35, kX0, rX0_0, w1, w54_3, q40, q41, q42, q43, q44, Option.toList_some, Option.toList_none, List.cons_append, List.nil_append, w84]
    refine X_putRule hc (show w < 5 by omega) ?_
    simp only [wL0, wLc, true_and, w2, lg0, lgi, lgr, lgl, w35, kX0, rX0_0, w1, w54_3, q40, q41, q42, q43, q44, Option.toList_some, Option.toList_none, List.cons_append, List.nil_append, w84]
    rw [hX.2.1 w (by omega)]
    exact h2 w n hw rfl a rfl _ (Cf_sr (by omega) Cf_r) (XC_r (by omega) hX)
theorem X_on {l : Int32} (hX : XC σ 1 S) (hI : Inv S) (h1 : ¬ hasL S l → K (some (.int (-1000001))) (noX σ 0)) (h2 : ∀ k, k < nv S 3 → l = nI k → ∀ σ', Cf 1 σ σ' → XC σ' 1 (upd S 2 (nI (dif (nv S 2) (2 ^ k)))) → K (some (.int (if (nv S 2).testBit k then 1 else 0))) σ') : Rn 0 ev mX_on [.ref 0, .int l] σ K := by
  have hc := CH1
  have hn10 := hI.1.2
  have hlt : nv S 2 < 1024 := by have := hI.2.1.1.2; omega
  refine Rn_V (by decide) rc5 rfl rfl ?_
  refine PW_blk okX_on 0 rfl SpX_ok ?_
  simp only [wL0, wLc, true_and, w2, lg0, lgi, lgr, lgl, w35, kX0, rX0_0, w1, w54_2, q40, q41, q42, q43, q44, Option.toList_some, Option.toList_none, List.cons_append, List.nil_append, xp_C_has, CH_e hc, w73, x3 hX hI]
  by_cases hl : hasL S l
  rotate_left
  · refine dN (hasS' hn10 hl) ?_
    refine PW_blk okX_on 1 rfl SpX_ok ?_
    simp only [wL0, wLc, true_and, w2, lg0, lgi, lgr, lgl, w0, w54_2, q40, q41, q42, q43, q44, Option.toList_some, Option.toList_none, List.cons_append, List.nil_append, xp_X_tell, tl0, tl1, tl2, tl3, tl4, tl5, tl6, tq0, tq1, tq2, tq3, tq4, tq5, tq6, w84]
    exact h1 hl
  refine dY (hasS hn10 hl) ?_
  obtain ⟨k, hk, rfl⟩ := hl
  have fin : ∀ x : Int32, x = (if (nv S 2).testBit k then 1 else 0) → PW 0 ev mX_on 34 [.ref 0, .int (nI k)] [.int x] σ K := by
    intro x hx
    subst hx
    refine PW_blk okX_on 5 rfl SpX_ok ?_
    simp only [wL0, wLc, true_and, w4, ls00, ls0i, ls0r, ls0l, lsi, lsr, lsl, Option.map_some, w2, lg0, lgi, lgr, lgl, w35, kX0, rX0_0, w8i, w8r, w33, CH_k hc, w0, w1, w19, w18, w16, w36, w84, x4 hX hI, nI_sh1 k (by omega), dif_I, si_is]
    refine h2 k hk rfl _ (Cf_sr (by omega) Cf_r) (XC_c hX (fun i h3 _ => updN (by omega)) ?_ ?_ ?_ ?_ ?_)
    · rw [updN (by decide), updN (by decide)]; exact hX.1.1
    · rw [updS, updS]
    · rw [updN (by decide), updN (by decide)]; exact hX.1.2.2.1
    · rw [updN (by decide), updN (by decide)]; exact hX.1.2.2.2.1
    · rw [updN (by decide), updN (by decide)]; exact hX.1.2.2.2.2
  refine PW_blk okX_on 2 rfl SpX_ok ?_
  simp only [wL0, wLc, true_and, w2, lg0, lgi, lgr, lgl, w35, kX0, rX0_0, w1, w54_2, q40, q41, q42, q43, q44, Option.toList_some, Option.toList_none, List.cons_append, List.nil_append, xp_C_isOff, CH_e hc, w72, x4 hX hI]
  unfold isNF
  rw [bit1 (by omega) (by omega)]
  by_cases hb : (nv S 2).testBit k = true
  · rw [if_pos hb, if_neg (by decide)]
    refine b2N (by decide) ?_
    refine PW_blk okX_on 3 rfl SpX_ok ?_
    simp only [wL0, wLc, true_and, w0, w70]
    exact fin 1 (by rw [if_pos hb])
  · rw [if_neg hb, if_pos rfl]
    refine b2Y rfl ?_
    refine PW_blk okX_on 4 rfl SpX_ok ?_
    simp only [wL0, wLc, true_and, w0, w71]
    exact fin 0 (by rw [if_neg hb])
theorem X_shut (hX : XC σ 1 S) (hI : Inv S) (hk : ∀ σ', Cf 1 σ σ' → XC σ' 1 (shS S) → K (some (.int (nI (pcn (nv S 2))))) σ') : Rn 0 ev mX_shut [.ref 0] σ K := by
  have hc := CH1
  refine Rn_V (by decide) rc5 rfl rfl ?_
  refine PW_blk okX_shut 0 rfl SpX_ok ?_
  simp only [wL0, wLc, true_and, w2, lg0, lgi, lgr, lgl, w35, kX0, rX0_0, w54_1, q40, q41, q42, q43, q44, Option.toList_some, Option.toList_none, List.cons_append, List.nil_append, w84]
  refine X_shutAll hc hX hI (fun r hX' => ?_)
  simp only [wL0, wLc, true_and, w2, lg0, lgi, lgr, lgl, w35, kX0, rX0_0, w54_1, q40, q41, q42, q43, q44, Option.toList_some, Option.toList_none, List.cons_append, List.nil_append, w84]
  exact hk _ (Cf_sr (by omega) Cf_r) hX'
theorem X_may (hX : XC σ 1 S) (hI : Inv S) (hk : K (some (.int (nI (mayN S (nv S 2))))) σ) : Rn 0 ev mX_may [.ref 0] σ K := by
  have hc := CH1
  have hlt : nv S 2 < 1024 := by have := hI.2.1.1.2; omega
  refine Rn_V (by decide) rc5 rfl rfl ?_
  refine PW_blk okX_may 0 rfl SpX_ok ?_
  simp only [wL0, wLc, true_and, w2, lg0, lgi, lgr, lgl, w35, kX0, rX0_0, w33, CH_k hc, w54_2, q40, q41, q42, q43, q44, Option.toList_some, Option.toList_none, List.cons_append, List.nil_append, w84, x4 hX hI]
  refine X_mayAt hc hX hI hlt ?_
  simp only [wL0, wLc, true_and, w2, lg0, lgi, lgr, lgl, w35, kX0, rX0_0, w33, CH_k hc, w54_2, q40, q41, q42, q43, q44, Option.toList_some, Option.toList_none, List.cons_append, List.nil_append, w84]
  exact hk
theorem X_why {l : Int32} (hX : XC σ 1 S) (hI : Inv S) (h1 : ¬ hasL S l → K (some (.int (-1000001))) (noX σ 0)) (h2 : ∀ k, k < nv S 3 → l = nI k → K (some (.int (whyF S k (nv S 2) (nI (slackN S (nv S 2))) (nI (hdN S (nv S 2)))))) σ) : Rn 0 ev mX_why [.ref 0, .int l] σ K := by
  have hc := CH1
  have hn10 := hI.1.2
  refine Rn_V (by decide) rc5 rfl rfl ?_
  refine PW_blk okX_why 0 rfl SpX_ok ?_
  simp only [wL0, wLc, true_and, w2, lg0, lgi, lgr, lgl, w35, kX0, rX0_0, w1, w54_2, q40, q41, q42, q43, q44, Option.toList_some, Option.toList_none, List.cons_append, List.nil_append, xp_C_has, CH_e hc, w73, x3 hX hI]
  by_cases hl : hasL S l
  rotate_left
  · refine dN (hasS' hn10 hl) ?_
    refine PW_blk okX_why 1 rfl SpX_ok ?_
    simp only [wL0, wLc, true_and, w2, lg0, lgi, lgr, lgl, w0, w54_2, q40, q41, q42, q43, q44, Option.toList_some, Option.toList_none, List.cons_append, List.nil_append, xp_X_tell, tl0, tl1, tl2, tl3, tl4, tl5, tl6, tq0, tq1, tq2, tq3, tq4, tq5, tq6, w84]
    exact h1 hl
  refine dY (hasS hn10 hl) ?_
  obtain ⟨k, hk, rfl⟩ := hl
  refine PW_blk okX_why 2 rfl SpX_ok ?_
  simp only [wL0, wLc, true_and, w2, lg0, lgi, lgr, lgl, w35, kX0, rX0_0, w1, w54_2, q40, q41, q42, q43, q44, Option.toList_some, Option.toList_none, List.cons_append, List.nil_append, w84]
  refine X_reasonNow hc hX hI hk ?_
  simp only [wL0, wLc, true_and, w2, lg0, lgi, lgr, lgl, w35, kX0, rX0_0, w1, w54_2, q40, q41, q42, q43, q44, Option.toList_some, Option.toList_none, List.cons_append, List.nil_append, w84]
  exact h2 k hk rfl
theorem X_off {l : Int32} (hX : XC σ 1 S) (hI : Inv S) (h1 : ¬ hasL S l → K (some (.int (-1000001))) (noX σ 0)) (h2 : ∀ k, k < nv S 3 → l = nI k → ¬ (mayok S k (nv S 2) ∧ nv S 0 + takesN S k (nv S 2) ≤ 99999) → K (some (.int (-1000005))) (noX σ 4)) (h3 : ∀ k, k < nv S 3 → l = nI k → mayok S k (nv S 2) → nv S 0 + takesN S k (nv S 2) ≤ 99999 → ∀ σ', Cf 1 σ σ' → XC σ' 1 (stS S k) → K (some (.int (nI (takesN S k (nv S 2))))) σ') : Rn 0 ev mX_off [.ref 0, .int l] σ K := by
  have hc := CH1
  have hn10 := hI.1.2
  have h0l := hI.2.2.1.2
  refine Rn_V (by decide) rc5 rfl rfl ?_
  refine PW_blk okX_off 0 rfl SpX_ok ?_
  simp only [wL0, wLc, true_and, w2, lg0, lgi, lgr, lgl, w35, kX0, rX0_0, w1, w54_2, q40, q41, q42, q43, q44, Option.toList_some, Option.toList_none, List.cons_append, List.nil_append, xp_C_has, CH_e hc, w73, x3 hX hI]
  by_cases hl : hasL S l
  rotate_left
  · refine dN (hasS' hn10 hl) ?_
    refine PW_blk okX_off 1 rfl SpX_ok ?_
    simp only [wL0, wLc, true_and, w2, lg0, lgi, lgr, lgl, w0, w54_2, q40, q41, q42, q43, q44, Option.toList_some, Option.toList_none, List.cons_append, List.nil_append, xp_X_tell, tl0, tl1, tl2, tl3, tl4, tl5, tl6, tq0, tq1, tq2, tq3, tq4, tq5, tq6, w84]
    exact h1 hl
  refine dY (hasS hn10 hl) ?_
  obtain ⟨k, hk, rfl⟩ := hl
  have ht := takes_le hI (o := nv S 2) hk
  refine PW_blk okX_off 2 rfl SpX_ok ?_
  simp only [wL0, wLc, true_and, w2, lg0, lgi, lgr, lgl, w35, kX0, rX0_0, w1, w54_2, q40, q41, q42, q43, q44, Option.toList_some, Option.toList_none, List.cons_append, List.nil_append, w4, ls00, ls0i, ls0r, ls0l, lsi, lsr, lsl, Option.map_some, w73]
  refine X_takesNow hc hX hI hk ?_
  simp only [wL0, wLc, true_and, w2, lg0, lgi, lgr, lgl, w35, kX0, rX0_0, w1, w54_2, q40, q41, q42, q43, q44, Option.toList_some, Option.toList_none, List.cons_append, List.nil_append, w4, ls00, ls0i, ls0r, ls0l, lsi, lsr, lsl, Option.map_some, w73]
  refine X_reasonNow hc hX hI hk ?_
  simp only [wL0, wLc, true_and, w2, lg0, lgi, lgr, lgl, w35, kX0, rX0_0, w1, w54_2, q40, q41, q42, q43, q44, Option.toList_some, Option.toList_none, List.cons_append, List.nil_append, w4, ls00, ls0i, ls0r, ls0l, lsi, lsr, lsl, Option.map_some, w73]
  have no : ¬ (mayok S k (nv S 2) ∧ nv S 0 + takesN S k (nv S 2) ≤ 99999) → PW 0 ev mX_off 52 [.ref 0, .int (nI k), .int (nI (takesN S k (nv S 2)))] [] σ K := by
    intro z
    refine PW_blk okX_off 4 rfl SpX_ok ?_
    simp only [wL0, wLc, true_and, w2, lg0, lgi, lgr, lgl, w0, w54_2, q40, q41, q42, q43, q44, Option.toList_some, Option.toList_none, List.cons_append, List.nil_append, xp_X_tell, tl0, tl1, tl2, tl3, tl4, tl5, tl6, tq0, tq1, tq2, tq3, tq4, tq5, tq6, w84]
    exact h2 k hk rfl z
  by_cases c1 : mayok S k (nv S 2)
  rotate_left
  · exact ⟨fun _ => no (fun z => c1 z.1), fun z => absurd z c1⟩
  refine ⟨fun z => absurd c1 z, fun _ => ?_⟩
  have esub : (99999 : Int32) - nI (takesN S k (nv S 2)) = nI (99999 - takesN S k (nv S 2)) := by rw [show (99999 : Int32) = nI 99999 from rfl, pk_sub (by omega)]
  refine PW_blk okX_off 3 rfl SpX_ok ?_
  simp only [wL0, wLc, true_and, w2, lg0, lgi, lgr, lgl, w35, kX0, rX0_0, w33, CH_k hc, w0, w1, w12, w83, x5 hX hI, esub]
  rw [nI_lt_iff (by omega) (by omega)]
  by_cases c2 : 99999 - takesN S k (nv S 2) < nv S 0
  · exact b3Y c2 (no (fun z => by omega))
  refine b3N c2 ?_
  refine PW_blk okX_off 5 rfl SpX_ok ?_
  simp only [wL0, wLc, true_and, w2, lg0, lgi, lgr, lgl, w35, kX0, rX0_0, w1, w54_2, q40, q41, q42, q43, q44, Option.toList_some, Option.toList_none, List.cons_append, List.nil_append, w84]
  refine X_step hc hX hI hk (fun r hX' => ?_)
  simp only [wL0, wLc, true_and, w2, lg0, lgi, lgr, lgl, w35, kX0, rX0_0, w1, w54_2, q40, q41, q42, q43, q44, Option.toList_some, Option.toList_none, List.cons_append, List.nil_append, w84]
  exact h3 k hk rfl c1 (by omega) _ (Cf_sr (by omega) Cf_r) hX'
theorem X_now {what : Int32} (hX : XC σ 1 S) (hI : Inv S) (h1 : ¬ rgI what 0 6 → K (some (.int (-1000001))) (noX σ 0)) (h2 : ∀ w, w ≤ 6 → what = nI w → K (some (.int (nowF S w))) σ) : Rn 0 ev mX_now [.ref 0, .int what] σ K := by
  have hc := CH1
  have hlt : nv S 2 < 1024 := by have := hI.2.1.1.2; omega
  refine Rn_V (by decide) rc5 rfl rfl ?_
  refine PW_blk okX_now 0 rfl SpX_ok ?_
  simp only [wL0, wLc, true_and, w1, lg0, lgi, lgr, lgl, w90, wS0, wSc]
  by_cases hw : rgI what 0 6
  rotate_left
  · have hw' := h1 hw
    refine ⟨fun h => absurd ⟨0, by decide, by decide, h⟩ hw, fun _ => ?_⟩
    refine ⟨fun h => absurd ⟨1, by decide, by decide, h⟩ hw, fun _ => ?_⟩
    refine ⟨fun h => absurd ⟨2, by decide, by decide, h⟩ hw, fun _ => ?_⟩
    refine ⟨fun h => absurd ⟨3, by decide, by decide, h⟩ hw, fun _ => ?_⟩
    refine ⟨fun h => absurd ⟨4, by decide, by decide, h⟩ hw, fun _ => ?_⟩
    refine ⟨fun h => absurd ⟨5, by decide, by decide, h⟩ hw, fun _ => ?_⟩
    refine ⟨fun h => absurd ⟨6, by decide, by decide, h⟩ hw, fun _ => ?_⟩
    refine PW_blk okX_now 14 rfl SpX_ok ?_
    simp only [wL0, wLc, true_and, w2, lg0, lgi, lgr, lgl, w0, w54_2, q40, q41, q42, q43, q44, Option.toList_some, Option.toList_none, List.cons_append, List.nil_append, xp_X_tell, tl0, tl1, tl2, tl3, tl4, tl5, tl6, tq0, tq1, tq2, tq3, tq4, tq5, tq6, w84]
    exact hw'
  obtain ⟨w, -, hw, rfl⟩ := hw
  have hkk := h2 w hw rfl
  rcases (show w = 0 ∨ w = 1 ∨ w = 2 ∨ w = 3 ∨ w = 4 ∨ w = 5 ∨ w = 6 by omega) with rfl | rfl | rfl | rfl | rfl | rfl | rfl
  · refine ⟨fun _ => ?_, fun h => absurd rfl h⟩
    refine PW_blk okX_now 1 rfl SpX_ok ?_
    simp only [wL0, wLc, true_and, w2, lg0, lgi, lgr, lgl, w35, kX0, rX0_0, w33, CH_k hc, w84, hX.1.2.2.1]
    exact hkk
  · refine ⟨fun h => absurd h (by decide), fun _ => ?_⟩
    refine ⟨fun _ => ?_, fun h => absurd rfl h⟩
    refine PW_blk okX_now 2 rfl SpX_ok ?_
    simp only [wL0, wLc, true_and, w2, lg0, lgi, lgr, lgl, w35, kX0, rX0_0, w33, CH_k hc, w84, hX.1.2.2.2.1]
    exact hkk
  · refine ⟨fun h => absurd h (by decide), fun _ => ?_⟩
    refine ⟨fun h => absurd h (by decide), fun _ => ?_⟩
    refine ⟨fun _ => ?_, fun h => absurd rfl h⟩
    refine PW_blk okX_now 3 rfl SpX_ok ?_
    simp only [wL0, wLc, true_and, w2, lg0, lgi, lgr, lgl, w35, kX0, rX0_0, w33, CH_k hc, w84, hX.1.2.1]
    exact hkk
  · refine ⟨fun h => absurd h (by decide), fun _ => ?_⟩
    refine ⟨fun h => absurd h (by decide), fun _ => ?_⟩
    refine ⟨fun h => absurd h (by decide), fun _ => ?_⟩
    refine ⟨fun _ => ?_, fun h => absurd rfl h⟩
    refine PW_blk okX_now 4 rfl SpX_ok ?_
    simp only [wL0, wLc, true_and, w2, lg0, lgi, lgr, lgl, w35, kX0, rX0_0, w33, CH_k hc, w54_2, q40, q41, q42, q43, q44, Option.toList_some, Option.toList_none, List.cons_append, List.nil_append, w84, x4 hX hI]
    refine X_slackAt hc hX hI hlt ?_
    simp only [wL0, wLc, true_and, w2, lg0, lgi, lgr, lgl, w35, kX0, rX0_0, w33, CH_k hc, w54_2, q40, q41, q42, q43, q44, Option.toList_some, Option.toList_none, List.cons_append, List.nil_append, w84]
    exact hkk
  · refine ⟨fun h => absurd h (by decide), fun _ => ?_⟩
    refine ⟨fun h => absurd h (by decide), fun _ => ?_⟩
    refine ⟨fun h => absurd h (by decide), fun _ => ?_⟩
    refine ⟨fun h => absurd h (by decide), fun _ => ?_⟩
    refine ⟨fun _ => ?_, fun h => absurd rfl h⟩
    refine PW_blk okX_now 5 rfl SpX_ok ?_
    simp only [wL0, wLc, true_and, w2, lg0, lgi, lgr, lgl, w35, kX0, rX0_0, w33, CH_k hc, w54_2, q40, q41, q42, q43, q44, Option.toList_some, Option.toList_none, List.cons_append, List.nil_append, w84, x4 hX hI]
    refine X_freeAt hc hX hI hlt ?_
    simp only [wL0, wLc, true_and, w2, lg0, lgi, lgr, lgl, w35, kX0, rX0_0, w33, CH_k hc, w54_2, q40, q41, q42, q43, q44, Option.toList_some, Option.toList_none, List.cons_append, List.nil_append, w84]
    exact hkk
  · refine ⟨fun h => absurd h (by decide), fun _ => ?_⟩
    refine ⟨fun h => absurd h (by decide), fun _ => ?_⟩
    refine ⟨fun h => absurd h (by decide), fun _ => ?_⟩
    refine ⟨fun h => absurd h (by decide), fun _ => ?_⟩
    refine ⟨fun h => absurd h (by decide), fun _ => ?_⟩
    refine ⟨fun _ => ?_, fun h => absurd rfl h⟩
    have hkk : K (some (.int (outF (S 6) (S 2)))) σ := hkk
    refine PW_blk okX_now 6 rfl SpX_ok ?_
    simp only [wL0, wLc, true_and, w2, lg0, lgi, lgr, lgl, w35, kX0, rX0_0, w33, CH_k hc, w54_2, q40, q41, q42, q43, q44, Option.toList_some, Option.toList_none, List.cons_append, List.nil_append, xp_C_isOutAt, CH_e hc, w72, hX.1.2.1, xr2 hX]
    rcases (show outF (S 6) (S 2) = 0 ∨ outF (S 6) (S 2) = 1 from b01) with h | h
    · rw [h] at hkk
      refine bN h ?_
      refine PW_blk okX_now 8 rfl SpX_ok ?_
      simp only [wL0, wLc, true_and, w0, w71]
      refine PW_blk okX_now 9 rfl SpX_ok ?_
      simp only [wL0, w84]
      exact hkk
    · rw [h] at hkk
      refine bY h ?_
      refine PW_blk okX_now 7 rfl SpX_ok ?_
      simp only [wL0, wLc, true_and, w0, w70]
      refine PW_blk okX_now 9 rfl SpX_ok ?_
      simp only [wL0, w84]
      exact hkk
  · refine ⟨fun h => absurd h (by decide), fun _ => ?_⟩
    refine ⟨fun h => absurd h (by decide), fun _ => ?_⟩
    refine ⟨fun h => absurd h (by decide), fun _ => ?_⟩
    refine ⟨fun h => absurd h (by decide), fun _ => ?_⟩
    refine ⟨fun h => absurd h (by decide), fun _ => ?_⟩
    refine ⟨fun h => absurd h (by decide), fun _ => ?_⟩
    refine ⟨fun _ => ?_, fun h => absurd rfl h⟩
    have hkk : K (some (.int (plF (S 7) (S 8) (S 0)))) σ := hkk
    refine PW_blk okX_now 10 rfl SpX_ok ?_
    simp only [wL0, wLc, true_and, w2, lg0, lgi, lgr, lgl, w35, kX0, rX0_0, w33, CH_k hc, w54_2, q40, q41, q42, q43, q44, Option.toList_some, Option.toList_none, List.cons_append, List.nil_append, xp_C_playsAt, CH_e hc, w72, hX.1.2.2.1, xr3 hX, xr4 hX]
    rcases plF_01 (S 7) (S 8) (S 0) with h | h
    · rw [h] at hkk
      refine bN h ?_
      refine PW_blk okX_now 12 rfl SpX_ok ?_
      simp only [wL0, wLc, true_and, w0, w71]
      refine PW_blk okX_now 13 rfl SpX_ok ?_
      simp only [wL0, w84]
      exact hkk
    · rw [h] at hkk
      refine bY h ?_
      refine PW_blk okX_now 11 rfl SpX_ok ?_
      simp only [wL0, wLc, true_and, w0, w70]
      refine PW_blk okX_now 13 rfl SpX_ok ?_
      simp only [wL0, w84]
      exact hkk
theorem X_friday {v : Int32} (hX : XC σ 1 S) (hI : Inv S) (h1 : ¬ rgI v 1 20 → K (some (.int (-1000001))) (noX σ 0)) (h2 : rgI v 1 20 → nv S 3 = 0 → K (some (.int (-1000005))) (noX σ 4)) (h3 : ∀ n, 1 ≤ n → n ≤ 20 → v = nI n → nv S 3 ≠ 0 → ∀ σ', Cf 1 σ σ' → XC σ' 1 (friU n (shS S)).2 → K (some (.int (nI (friU n (shS S)).1))) σ') : Rn 0 ev mX_friday [.ref 0, .int v] σ K := by
  have hc := CH1
  have hn10 := hI.1.2
  refine Rn_V (by decide) rc5 rfl rfl ?_
  have no : ¬ rgI v 1 20 → PW 0 ev mX_friday 11 [.ref 0, .int v] [] σ K := by
    intro z
    refine PW_blk okX_friday 2 rfl SpX_ok ?_
    simp only [wL0, wLc, true_and, w2, lg0, lgi, lgr, lgl, w0, w54_2, q40, q41, q42, q43, q44, Option.toList_some, Option.toList_none, List.cons_append, List.nil_append, xp_X_tell, tl0, tl1, tl2, tl3, tl4, tl5, tl6, tq0, tq1, tq2, tq3, tq4, tq5, tq6, w84]
    exact h1 z
  refine PW_blk okX_friday 0 rfl SpX_ok ?_
  simp only [wL0, wLc, true_and, w1, lg0, lgi, lgr, lgl, w0, w80]
  by_cases c1 : v < 1
  · refine b2Y c1 (no (fun ⟨n, a, b, e⟩ => ?_))
    rw [e] at c1
    exact nI_nlt (a := n) (b := 1) a (by omega) c1
  refine b2N c1 ?_
  have c0 : ¬ v < 0 := fun z => c1 (fa_trans z (by decide))
  obtain ⟨n, hn, rfl⟩ := ge0 c0
  rw [show (1 : Int32) = nI 1 from rfl, nI_lt_iff hn (by decide)] at c1
  refine PW_blk okX_friday 1 rfl SpX_ok ?_
  simp only [wL0, wLc, true_and, w1, lg0, lgi, lgr, lgl, w0, w83]
  rw [show (20 : Int32) = nI 20 from rfl, nI_lt_iff (by decide) hn]
  by_cases c2 : 20 < n
  · exact b3Y c2 (no (rg_big hn c2 (by decide)))
  refine b3N c2 ?_
  refine PW_blk okX_friday 3 rfl SpX_ok ?_
  simp only [wL0, wLc, true_and, w2, lg0, lgi, lgr, lgl, w35, kX0, rX0_0, w33, CH_k hc, w73, x3 hX hI]
  rw [nI_z (by omega)]
  by_cases c3 : nv S 3 = 0
  · refine b3Y c3 ?_
    refine PW_blk okX_friday 4 rfl SpX_ok ?_
    simp only [wL0, wLc, true_and, w2, lg0, lgi, lgr, lgl, w0, w54_2, q40, q41, q42, q43, q44, Option.toList_some, Option.toList_none, List.cons_append, List.nil_append, xp_X_tell, tl0, tl1, tl2, tl3, tl4, tl5, tl6, tq0, tq1, tq2, tq3, tq4, tq5, tq6, w84]
    exact h2 ⟨n, by omega, by omega, rfl⟩ c3
  refine b3N c3 ?_
  refine PW_blk okX_friday 5 rfl SpX_ok ?_
  simp only [wL0, wLc, true_and, w2, lg0, lgi, lgr, lgl, w35, kX0, rX0_0, w1, w54_2, q40, q41, q42, q43, q44, Option.toList_some, Option.toList_none, List.cons_append, List.nil_append, w84]
  refine X_tryFriday hc hX hI (by omega) (fun r hX' => ?_)
  simp only [wL0, wLc, true_and, w2, lg0, lgi, lgr, lgl, w35, kX0, rX0_0, w1, w54_2, q40, q41, q42, q43, q44, Option.toList_some, Option.toList_none, List.cons_append, List.nil_append, w84]
  exact h3 n (by omega) (by omega) rfl c3 _ (Cf_sr (by omega) Cf_r) hX'
theorem X_seed {v : Int32} (hX : XC σ 1 S) (hk : ∀ σ', Cf 1 σ σ' → XC σ' 1 (upd S 9 v) → K (some (.int (S 9))) σ') : Rn 0 ev mX_seed [.ref 0, .int v] σ K := by
  have hc := CH1
  refine Rn_V (by decide) rc5 rfl rfl ?_
  refine PW_blk okX_seed 0 rfl SpX_ok ?_
  simp only [wL0, wLc, true_and, w2, lg0, lgi, lgr, lgl, w35, kX0, rX0_0, w33, CH_k hc, w4, ls00, ls0i, ls0r, ls0l, lsi, lsr, lsl, Option.map_some, w1, w36, w84, hX.1.2.2.2.2, si_is]
  exact hk _ (Cf_sr (by omega) Cf_r) (XC_9 hX)
end PX
