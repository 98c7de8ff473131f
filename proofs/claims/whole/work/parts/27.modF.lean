/-! ith, ahead: the man walks his row, and is set back -/
def ag3 (S S' : Nat → Int32) : Prop := ∀ i, 3 ≤ i → S' i = S i
theorem ag_nv {S S' : Nat → Int32} (h : ag3 S S') {i : Nat} (hi : 3 ≤ i) : nv S' i = nv S i := by unfold nv; rw [h i hi]
theorem ag_t {S S' : Nat → Int32} (h : ag3 S S') (k f : Nat) : nv S' (tr k f) = nv S (tr k f) := ag_nv h (by unfold tr; omega)
theorem ag_tS {S S' : Nat → Int32} (h : ag3 S S') (k f : Nat) : S' (tr k f) = S (tr k f) := h _ (by unfold tr; omega)
theorem slU_ag {S S' : Nat → Int32} (h : ag3 S S') (o : Nat) : ∀ n, slU S' o n = slU S o n
  | 0 => ag_nv h (by decide)
  | n + 1 => by unfold slU; rw [slU_ag h o n, ag_t h]
theorem slackN_ag {S S' : Nat → Int32} (h : ag3 S S') (o : Nat) : slackN S' o = slackN S o := by unfold slackN; rw [ag_nv h (by decide), slU_ag h]
theorem bdU_ag {S S' : Nat → Int32} (h : ag3 S S') (o : Nat) : ∀ n, bdU S' o n = bdU S o n
  | 0 => rfl
  | n + 1 => by unfold bdU; rw [bdU_ag h o n, ag_t h]
theorem frN_ag {S S' : Nat → Int32} (h : ag3 S S') (o : Nat) : frN S' o = frN S o := by unfold frN; rw [ag_nv h (by decide), bdU_ag h]
theorem takesN_ag {S S' : Nat → Int32} (h : ag3 S S') (k o : Nat) : takesN S' k o = takesN S k o := by
  unfold takesN hdN
  rw [slackN_ag h, frN_ag h, ag_t h, ag_t h]
theorem soundN_ag {S S' : Nat → Int32} (h : ag3 S S') (k : Nat) : soundN S' k = soundN S k := by
  unfold soundN
  rw [ag_t h, ag_t h]
theorem InvK_ag {S S' : Nat → Int32} (h : ag3 S S') {k : Nat} (hk : InvK S k) : InvK S' k := by
  unfold InvK rg at *
  simp only [ag_tS h, ag_t h]
  exact hk
theorem rg_ag {S S' : Nat → Int32} (h : ag3 S S') {i m : Nat} (hi : 3 ≤ i) (hr : rg S i m) : rg S' i m := by
  unfold rg at *
  rw [h i hi, ag_nv h hi]
  exact hr
theorem Inv_ag {S S' : Nat → Int32} (h : ag3 S S') (hI : Inv S) (h0 : rg S' 0 299999) (h2 : rg S' 2 1023 ∧ nv S' 2 < 2 ^ nv S 3) : Inv S' := by
  have h3 := ag_nv h (i := 3) (by decide)
  refine ⟨rg_ag h (by decide) hI.1, ?_, h0, rg_ag h (by decide) hI.2.2.2.1, rg_ag h (by decide) hI.2.2.2.2.1, ?_, rg_ag h (by decide) hI.2.2.2.2.2.2.1, rg_ag h (by decide) hI.2.2.2.2.2.2.2.1, ?_, ?_⟩
  · rw [h3]; exact h2
  · rw [h3, ag_nv h (i := 6) (by decide)]; exact ⟨rg_ag h (by decide) hI.2.2.2.2.2.1.1, hI.2.2.2.2.2.1.2⟩
  · rw [h3]; exact fun k hk => InvK_ag h (hI.2.2.2.2.2.2.2.2.1 k hk)
  · rw [h3]
    intro i hi
    rw [h (110 + i) (by omega)]
    exact hI.2.2.2.2.2.2.2.2.2 i hi
theorem stS_ag {S : Nat → Int32} {k : Nat} : ag3 S (stS S k) := by
  intro i hi
  unfold stS
  rw [updN (by omega), updN (by omega), updN (by omega)]
theorem ag_trans {a b c : Nat → Int32} (h : ag3 a b) (h2 : ag3 b c) : ag3 a c := fun i hi => (h2 i hi).trans (h i hi)
theorem stS_2 {S : Nat → Int32} {k : Nat} (hk : k < 31) (h : rg S 2 1023) : stS S k 2 = nI (nv S 2 ||| 2 ^ k) := by
  unfold stS
  rw [updS, nI_sh1 k hk, h.1, fa_or]
theorem stS_0 {S : Nat → Int32} {k : Nat} (h : rg S 0 299999) : stS S k 0 = nI (nv S 0 + takesN S k (nv S 2)) := by
  unfold stS
  rw [updN (by decide), updS, h.1, nI_add]
theorem stS_1 {S : Nat → Int32} {k : Nat} : stS S k 1 = S 1 + if plF (S 7) (S 8) (S 0) = 0 then nI (soundN S k) else 0 := by
  unfold stS
  rw [updN (by decide), updN (by decide), updS]
theorem Inv_stS {S : Nat → Int32} {k : Nat} (hI : Inv S) (hk : k < nv S 3) (hb : nv S 0 + takesN S k (nv S 2) ≤ 299999) : Inv (stS S k) ∧ nv (stS S k) 2 = nv S 2 ||| 2 ^ k ∧ nv (stS S k) 0 = nv S 0 + takesN S k (nv S 2) := by
  have hn := hI.1.2
  have hT := p2le _ hn
  have hlt : nv S 2 ||| 2 ^ k < 2 ^ nv S 3 := or_lt hI.2.1.2 hk
  have e2 : nv (stS S k) 2 = nv S 2 ||| 2 ^ k := nv_of (stS_2 (by omega) hI.2.1.1) (by omega)
  have e0 : nv (stS S k) 0 = nv S 0 + takesN S k (nv S 2) := nv_of (stS_0 hI.2.2.1) (by omega)
  refine ⟨Inv_ag stS_ag hI (rg_of (stS_0 hI.2.2.1) hb) ⟨rg_of (stS_2 (by omega) hI.2.1.1) (by omega), by rw [e2]; exact hlt⟩, e2, e0⟩
noncomputable def SSq (S : Nat → Int32) (o : Nat) : Nat → Nat → Int32
  | 0 => S
  | i + 1 => stS (SSq S o i) (pick S (rst S o i))
theorem SSq_ag {S : Nat → Int32} {o : Nat} : ∀ i, ag3 S (SSq S o i)
  | 0 => fun _ _ => rfl
  | i + 1 => ag_trans (SSq_ag i) stS_ag
theorem SSq_ok {S : Nat → Int32} (hI : Inv S) {v0 : Nat} (hC : nv S 0 ≤ 99999) (hl : lst S 0 (nv S 2) = some v0) : ∀ i, (∀ j, j < i → ¬ outP S (rst S (nv S 2) j)) → Inv (SSq S (nv S 2) i) ∧ nv (SSq S (nv S 2) i) 2 = rst S (nv S 2) i ∧ ∃ v, lst S 0 (rst S (nv S 2) i) = some v ∧ nv (SSq S (nv S 2) i) 0 + v = nv S 0 + v0
  | 0, _ => ⟨hI, rfl, v0, hl, rfl⟩
  | i + 1, h => by
    have hn := hI.1.2
    have hT := p2le _ hn
    have hne : lst S 0 (nv S 2) ≠ none := by rw [hl]; exact fun z => by cases z
    obtain ⟨h1, h2, v, h3, h4⟩ := SSq_ok hI hC hl i (fun j hj => h j (by omega))
    obtain ⟨q1, q2, q3, q4⟩ := rst_ok hI hI.2.1.2 hne i (fun j hj => h j (by omega))
    obtain ⟨hk, ⟨hm, w, hw, hw2⟩, -⟩ := pick_ok hI (by omega) q1 (h i (by omega))
    have hle := lst_lt hI (by have := hI.2.1.2; omega) hl
    rw [h3] at hw2
    have hw3 := Option.some.inj hw2
    have hag := SSq_ag (S := S) (o := nv S 2) i
    have et : takesN (SSq S (nv S 2) i) (pick S (rst S (nv S 2) i)) (nv (SSq S (nv S 2) i) 2) = takesN S (pick S (rst S (nv S 2) i)) (rst S (nv S 2) i) := by rw [h2, takesN_ag hag]
    have hk2 : pick S (rst S (nv S 2) i) < nv (SSq S (nv S 2) i) 3 := by rw [ag_nv hag (by decide)]; exact hk
    have key := Inv_stS h1 hk2 (by rw [et]; omega)
    refine ⟨key.1, ?_, w, hw, ?_⟩
    · show nv (stS _ _) 2 = _
      rw [key.2.1, h2]; rfl
    · show nv (stS _ _) 0 + w = _
      rw [key.2.2, et]; omega
section MF
variable {ev : EV} {σ : St2} {K : PO}
theorem R_ith {i : Int32} (hI : Inv (σ.1 1)) (h1 : ¬ rgI i 0 9 → K (some (.int (-1000001))) (noS σ 0)) (h2 : ∀ j, j ≤ 9 → i = nI j → (lst (σ.1 1) 0 (nv (σ.1 1) 2) = none ∨ ∃ m, rowM (σ.1 1) (nv (σ.1 1) 2) m ∧ m ≤ j) → ∀ σ', Sm σ σ' → K (some (.int (-1000004))) (noS σ' 3)) (h3 : ∀ j m, i = nI j → lst (σ.1 1) 0 (nv (σ.1 1) 2) ≠ none → rowM (σ.1 1) (nv (σ.1 1) 2) m → j < m → ∀ σ', Sm σ σ' → K (some (.int (nI (pick (σ.1 1) (rst (σ.1 1) (nv (σ.1 1) 2) j))))) σ') : Rn 1 ev mM_ith [.ref 0, .int i] σ K := by
  refine Rn_V (by decide) rc6 rfl rfl ?_
  refine PW_blk okM_ith 0 rfl SpM_ok ?_
  simp only [wL0, wLc, true_and, w1, lg0, lgi, lgr, lgl, w0, w55_3, q40, q41, q42, q43, q44, Option.toList_some, Option.toList_none, List.cons_append, List.nil_append, sp_in1, w73]
  by_cases hr : rgI i 0 9
  rotate_left
  · refine dN (in1N (by decide) (by decide) hr) ?_
    refine PW_blk okM_ith 1 rfl SpM_ok ?_
    simp only [wL0, wLc, true_and, w2, lg0, lgi, lgr, lgl, w0, w54_2, q40, q41, q42, q43, q44, Option.toList_some, Option.toList_none, List.cons_append, List.nil_append, sp_no, v7_0, v7_1, v7_2, v7_3, v7_4, v7_5, v7_6, w84]
    exact h1 hr
  refine dY (in1Y (by decide) hr) ?_
  obtain ⟨j, -, hj, rfl⟩ := hr
  refine PW_blk okM_ith 2 rfl SpM_ok ?_
  simp only [wL0, wLc, true_and, w2, lg0, lgi, lgr, lgl, w54_1, q40, q41, q42, q43, q44, Option.toList_some, Option.toList_none, List.cons_append, List.nil_append, w4, ls00, ls0i, ls0r, ls0l, lsi, lsr, lsl, Option.map_some, w1, w72]
  refine R_findsRow hI (fun e σ' hS => ?_) (fun m hne hm hm10 σ' hS h7 h6 => ?_)
  · simp only [wL0, wLc, true_and, w2, lg0, lgi, lgr, lgl, w54_1, q40, q41, q42, q43, q44, Option.toList_some, Option.toList_none, List.cons_append, List.nil_append, w4, ls00, ls0i, ls0r, ls0l, lsi, lsr, lsl, Option.map_some, w1, w72]
    refine b2Y trivial ?_
    refine PW_blk okM_ith 5 rfl SpM_ok ?_
    simp only [wL0, wLc, true_and, w2, lg0, lgi, lgr, lgl, w0, w54_2, q40, q41, q42, q43, q44, Option.toList_some, Option.toList_none, List.cons_append, List.nil_append, sp_no, v7_0, v7_1, v7_2, v7_3, v7_4, v7_5, v7_6, w71]
    refine PW_blk okM_ith 6 rfl SpM_ok ?_
    simp only [wL0, w84]
    exact h2 j hj rfl (Or.inl e) σ' hS
  · simp only [wL0, wLc, true_and, w2, lg0, lgi, lgr, lgl, w54_1, q40, q41, q42, q43, q44, Option.toList_some, Option.toList_none, List.cons_append, List.nil_append, w4, ls00, ls0i, ls0r, ls0l, lsi, lsr, lsl, Option.map_some, w1, w72]
    refine b2N (by decide) ?_
    refine PW_blk okM_ith 3 rfl SpM_ok ?_
    simp only [wL0, wLc, true_and, w1, lg0, lgi, lgr, lgl, w2, w33, kM0, w81, h7]
    by_cases hjm : j < m
    · refine b3Y (nI_lt hjm (by omega)) ?_
      refine PW_blk okM_ith 4 rfl SpM_ok ?_
      simp only [wL0, wLc, true_and, w2, lg0, lgi, lgr, lgl, w35, kM0, rM6, kM6, nM6, w1, w39, w70, eq_true (vp_in_nI (show j < 10 by omega) (by decide)), nI_clamp (show j < 2 ^ 31 by omega), h6 j hjm]
      refine PW_blk okM_ith 6 rfl SpM_ok ?_
      simp only [wL0, w84]
      exact h3 j m rfl hne hm hjm σ' hS
    · refine b3N (nI_nlt (a := j) (b := m) (by omega) (by omega)) ?_
      refine PW_blk okM_ith 5 rfl SpM_ok ?_
      simp only [wL0, wLc, true_and, w2, lg0, lgi, lgr, lgl, w0, w54_2, q40, q41, q42, q43, q44, Option.toList_some, Option.toList_none, List.cons_append, List.nil_append, sp_no, v7_0, v7_1, v7_2, v7_3, v7_4, v7_5, v7_6, w71]
      refine PW_blk okM_ith 6 rfl SpM_ok ?_
      simp only [wL0, w84]
      exact h2 j hj rfl (Or.inr ⟨m, hm, by omega⟩) σ' hS
theorem R_setsAside (hk : K none (sr σ 3 (fa_fill (σ.1 1) (σ.1 3) 120))) : Rn 1 ev mM_setsAside [.ref 0] σ K := by
  refine Rn_V (by decide) rc6 rfl rfl ?_
  refine PW_blk okM_setsAside 0 rfl SpM_ok ?_
  simp only [wL0, wLc, true_and, w0, w4, ls00, ls0i, ls0r, ls0l, lsi, lsr, lsl, Option.map_some, w71]
  have key := lp_up (n := 120) (P := fun i => PW 1 ev mM_setsAside 2 [.ref 0, .int (nI i)] [] (sr σ 3 (fa_fill (σ.1 1) (σ.1 3) i)) K) ?_ ?_ 0 (by decide)
  · rw [fa_fill_0, sr_self] at key
    exact key
  · refine PW_blk okM_setsAside 1 rfl SpM_ok ?_
    simp only [wL0, wLc, true_and, w1, lg0, lgi, lgr, lgl, w0, w81]
    refine b3N (by decide) ?_
    refine PW_blk okM_setsAside 3 rfl SpM_ok ?_
    simp only [wL0, w87]
    exact hk
  · intro i hi ih
    refine PW_blk okM_setsAside 1 rfl SpM_ok ?_
    simp only [wL0, wLc, true_and, w1, lg0, lgi, lgr, lgl, w0, w81]
    refine b3Y (nI_lt hi (by decide)) ?_
    refine PW_blk okM_setsAside 2 rfl SpM_ok ?_
    simp only [wL0, wLc, true_and, w2, lg0, lgi, lgr, lgl, w35, kM0, rM2, kM3, nM3, w1, rM0, kM1, nM1, w39, w40, w7, ls00, ls0i, ls0r, ls0l, lsi, lsr, lsl, Option.map_some, w70, n3_1, eq_true (vp_in_nI (show i < 120 by omega) (by decide)), nI_clamp (show i < 2 ^ 31 by omega), si_sr, fa_fill_succ]
    rw [show (1 : Int32) = nI 1 from rfl, nI_add]
    exact ih
theorem R_laysBack (hk : K none (sr σ 1 (fa_fill (σ.1 3) (σ.1 1) 120))) : Rn 1 ev mM_laysBack [.ref 0] σ K := by
  refine Rn_V (by decide) rc6 rfl rfl ?_
  refine PW_blk okM_laysBack 0 rfl SpM_ok ?_
  simp only [wL0, wLc, true_and, w0, w4, ls00, ls0i, ls0r, ls0l, lsi, lsr, lsl, Option.map_some, w71]
  have key := lp_up (n := 120) (P := fun i => PW 1 ev mM_laysBack 2 [.ref 0, .int (nI i)] [] (sr σ 1 (fa_fill (σ.1 3) (σ.1 1) i)) K) ?_ ?_ 0 (by decide)
  · rw [fa_fill_0, sr_self] at key
    exact key
  · refine PW_blk okM_laysBack 1 rfl SpM_ok ?_
    simp only [wL0, wLc, true_and, w1, lg0, lgi, lgr, lgl, w0, w81]
    refine b3N (by decide) ?_
    refine PW_blk okM_laysBack 3 rfl SpM_ok ?_
    simp only [wL0, w87]
    exact hk
  · intro i hi ih
    refine PW_blk okM_laysBack 1 rfl SpM_ok ?_
    simp only [wL0, wLc, true_and, w1, lg0, lgi, lgr, lgl, w0, w81]
    refine b3Y (nI_lt hi (by decide)) ?_
    refine PW_blk okM_laysBack 2 rfl SpM_ok ?_
    simp only [wL0, wLc, true_and, w2, lg0, lgi, lgr, lgl, w35, kM0, rM0, kM1, nM1, w1, rM2, kM3, nM3, w39, w40, w7, ls00, ls0i, ls0r, ls0l, lsi, lsr, lsl, Option.map_some, w70, n1_3, eq_true (vp_in_nI (show i < 120 by omega) (by decide)), nI_clamp (show i < 2 ^ 31 by omega), si_sr, fa_fill_succ]
    rw [show (1 : Int32) = nI 1 from rfl, nI_add]
    exact ih
theorem R_ahead {what : Int32} (hI : Inv (σ.1 1)) (hC : nv (σ.1 1) 0 ≤ 99999) (h1 : ¬ rgI what 0 1 → K (some (.int (-1000001))) (noS σ 0)) (h2 : ∀ w, w ≤ 1 → what = nI w → lst (σ.1 1) 0 (nv (σ.1 1) 2) = none → ∀ σ', Sm σ σ' → K (some (.int (-1000004))) (noS σ' 3)) (h3 : ∀ w v, w ≤ 1 → what = nI w → lst (σ.1 1) 0 (nv (σ.1 1) 2) = some v → 99999 < nv (σ.1 1) 0 + v → ∀ σ', Sm σ σ' → K (some (.int (-1000005))) (noS σ' 4)) (h4 : ∀ v, what = nI 0 → lst (σ.1 1) 0 (nv (σ.1 1) 2) = some v → nv (σ.1 1) 0 + v ≤ 99999 → ∀ σ', Sm σ σ' → K (some (.int (nI (nv (σ.1 1) 0 + v)))) σ') (h5 : ∀ v m, what = nI 1 → lst (σ.1 1) 0 (nv (σ.1 1) 2) = some v → nv (σ.1 1) 0 + v ≤ 99999 → rowM (σ.1 1) (nv (σ.1 1) 2) m → ∀ σ', Sm σ σ' → K (some (.int (SSq (σ.1 1) (nv (σ.1 1) 2) m 1 - σ.1 1 1))) σ') : Rn 1 ev mM_ahead [.ref 0, .int what] σ K := by
  have hlt : nv (σ.1 1) 2 < 1024 := by have := hI.2.1.1.2; omega
  refine Rn_V (by decide) rc6 rfl rfl ?_
  refine PW_blk okM_ahead 0 rfl SpM_ok ?_
  simp only [wL0, wLc, true_and, w1, lg0, lgi, lgr, lgl, w0, w55_3, q40, q41, q42, q43, q44, Option.toList_some, Option.toList_none, List.cons_append, List.nil_append, sp_in1, w73]
  by_cases hr : rgI what 0 1
  rotate_left
  · refine dN (in1N (by decide) (by decide) hr) ?_
    refine PW_blk okM_ahead 1 rfl SpM_ok ?_
    simp only [wL0, wLc, true_and, w2, lg0, lgi, lgr, lgl, w0, w54_2, q40, q41, q42, q43, q44, Option.toList_some, Option.toList_none, List.cons_append, List.nil_append, sp_no, v7_0, v7_1, v7_2, v7_3, v7_4, v7_5, v7_6, w84]
    exact h1 hr
  refine dY (in1Y (by decide) hr) ?_
  obtain ⟨w, -, hw, rfl⟩ := hr
  refine PW_blk okM_ahead 2 rfl SpM_ok ?_
  simp only [wL0, wLc, true_and, w2, lg0, lgi, lgr, lgl, w54_1, q40, q41, q42, q43, q44, Option.toList_some, Option.toList_none, List.cons_append, List.nil_append, w73]
  refine R_findsRow hI (fun e σ' hS => ?_) (fun m hne hm hm10 σ' hS h7 h6 => ?_)
  · simp only [wL0, wLc, true_and, w2, lg0, lgi, lgr, lgl, w54_1, q40, q41, q42, q43, q44, Option.toList_some, Option.toList_none, List.cons_append, List.nil_append, w73]
    refine b3Y trivial ?_
    refine PW_blk okM_ahead 3 rfl SpM_ok ?_
    simp only [wL0, wLc, true_and, w2, lg0, lgi, lgr, lgl, w0, w54_2, q40, q41, q42, q43, q44, Option.toList_some, Option.toList_none, List.cons_append, List.nil_append, sp_no, v7_0, v7_1, v7_2, v7_3, v7_4, v7_5, v7_6, w84]
    exact h2 w hw rfl e σ' hS
  · simp only [wL0, wLc, true_and, w2, lg0, lgi, lgr, lgl, w54_1, q40, q41, q42, q43, q44, Option.toList_some, Option.toList_none, List.cons_append, List.nil_append, w73]
    refine b3N (by decide) ?_
    obtain ⟨v, hv⟩ : ∃ v, lst (σ.1 1) 0 (nv (σ.1 1) 2) = some v := by
      cases e : lst (σ.1 1) 0 (nv (σ.1 1) 2) with
      | none => exact absurd e hne
      | some v => exact ⟨v, rfl⟩
    have hvl := lst_lt hI hlt hv
    have e1 : σ'.1 1 = σ.1 1 := hS.1 1 rfl
    have ok := fun i (hi : i ≤ m) => SSq_ok hI hC hv i (fun j hj => hm.2 j (by omega))
    refine PW_blk okM_ahead 4 rfl SpM_ok ?_
    simp only [wL0, wLc, true_and, w2, lg0, lgi, lgr, lgl, w54_1, q40, q41, q42, q43, q44, Option.toList_some, Option.toList_none, List.cons_append, List.nil_append, w0, w4, ls00, ls0i, ls0r, ls0l, lsi, lsr, lsl, Option.map_some, w71]
    refine R_setsAside ?_
    simp only [wL0, wLc, true_and, w2, lg0, lgi, lgr, lgl, w54_1, q40, q41, q42, q43, q44, Option.toList_some, Option.toList_none, List.cons_append, List.nil_append, w0, w4, ls00, ls0i, ls0r, ls0l, lsi, lsr, lsl, Option.map_some, w71]
    rw [e1]
    have key := lp_up (n := m) (P := fun i => PW 1 ev mM_ahead 34 [.ref 0, .int (nI w), .int (nI i)] [] (sr (sr σ' 3 (fa_fill (σ.1 1) (σ'.1 3) 120)) 1 (SSq (σ.1 1) (nv (σ.1 1) 2) i)) K) ?_ ?_ 0 (Nat.zero_le _)
    · have e0 : sr (sr σ' 3 (fa_fill (σ.1 1) (σ'.1 3) 120)) 1 (SSq (σ.1 1) (nv (σ.1 1) 2) 0) = sr σ' 3 (fa_fill (σ.1 1) (σ'.1 3) 120) := by
        have : SSq (σ.1 1) (nv (σ.1 1) 2) 0 = (sr σ' 3 (fa_fill (σ.1 1) (σ'.1 3) 120)).1 1 := by rw [n3_1, e1]; rfl
        rw [this, sr_self]
      rw [e0] at key
      exact key
    · refine PW_blk okM_ahead 5 rfl SpM_ok ?_
      simp only [wL0, wLc, true_and, w1, lg0, lgi, lgr, lgl, w2, w33, kM0, w81, n1_0, n3_0, h7]
      refine b3N (nI_nlt (Nat.le_refl _) (by omega)) ?_
      obtain ⟨g1, g2, v2, g3, g4⟩ := ok m (Nat.le_refl _)
      have hv0 : v2 = 0 := by
        have hT := p2le _ hI.1.2
        have := (rst_ok hI hI.2.1.2 hne m hm.2).2.1
        rw [lst_out hI.1.2 (by omega) hm.1] at g3
        exact (Option.some.inj g3).symm
      subst hv0
      have ec : SSq (σ.1 1) (nv (σ.1 1) 2) m 0 = nI (nv (σ.1 1) 0 + v) := by rw [g1.2.2.1.1, show nv (SSq (σ.1 1) (nv (σ.1 1) 2) m) 0 = nv (σ.1 1) 0 + v by omega]
      refine PW_blk okM_ahead 7 rfl SpM_ok ?_
      simp only [wL0, wLc, true_and, w2, lg0, lgi, lgr, lgl, w35, kM0, rM0, kM1, nM1, w0, w39, w4, ls00, ls0i, ls0r, ls0l, lsi, lsr, lsl, Option.map_some, w54_1, q40, q41, q42, q43, q44, Option.toList_some, Option.toList_none, List.cons_append, List.nil_append, w1, tn0, vi0_120, tn1, vi1_120, w83, sr1, ec]
      refine R_laysBack ?_
      simp only [wL0, wLc, true_and, w2, lg0, lgi, lgr, lgl, w35, kM0, rM0, kM1, nM1, w0, w39, w4, ls00, ls0i, ls0r, ls0l, lsi, lsr, lsl, Option.map_some, w54_1, q40, q41, q42, q43, q44, Option.toList_some, Option.toList_none, List.cons_append, List.nil_append, w1, tn0, vi0_120, tn1, vi1_120, w83, sr1, sr_sr, n1_3]
      have eb : fa_fill (fa_fill (σ.1 1) (σ'.1 3) 120) (SSq (σ.1 1) (nv (σ.1 1) 2) m) 120 = σ.1 1 := by
        funext i
        by_cases hi : i < 120
        · rw [fa_fill_in hi, fa_fill_in hi]
        · rw [fa_fill_out (by omega)]
          exact SSq_ag m i (by omega)
      rw [eb]
      have hS2 : Sm σ (sr (sr σ' 3 (fa_fill (σ.1 1) (σ'.1 3) 120)) 1 (σ.1 1)) := by
        have h3 : Sm σ (sr σ' 3 (fa_fill (σ.1 1) (σ'.1 3) 120)) := Sm_sr (by decide) (by decide) hS
        have h4 : (sr σ' 3 (fa_fill (σ.1 1) (σ'.1 3) 120)).1 1 = σ.1 1 := h3.1 1 rfl
        rw [sr_eq h4.symm]
        exact h3
      rw [show (99999 : Int32) = nI 99999 from rfl, nI_lt_iff (by decide) (by omega)]
      by_cases hc : 99999 < nv (σ.1 1) 0 + v
      · refine b3Y hc ?_
        refine PW_blk okM_ahead 8 rfl SpM_ok ?_
        simp only [wL0, wLc, true_and, w2, lg0, lgi, lgr, lgl, w0, w54_2, q40, q41, q42, q43, q44, Option.toList_some, Option.toList_none, List.cons_append, List.nil_append, sp_no, v7_0, v7_1, v7_2, v7_3, v7_4, v7_5, v7_6, w84]
        exact h3 w v hw rfl hv hc _ hS2
      · refine b3N hc ?_
        refine PW_blk okM_ahead 9 rfl SpM_ok ?_
        simp only [wL0, wLc, true_and, w1, lg0, lgi, lgr, lgl, w73]
        rcases (show w = 0 ∨ w = 1 by omega) with rfl | rfl
        · refine b3Y rfl ?_
          refine PW_blk okM_ahead 10 rfl SpM_ok ?_
          simp only [wL0, wLc, true_and, w1, lg0, lgi, lgr, lgl, w70]
          refine PW_blk okM_ahead 12 rfl SpM_ok ?_
          simp only [wL0, w84]
          exact h4 v rfl hv (by omega) _ hS2
        · refine b3N (by decide) ?_
          refine PW_blk okM_ahead 11 rfl SpM_ok ?_
          simp only [wL0, wLc, true_and, w1, lg0, lgi, lgr, lgl, w2, w35, kM0, rM0, kM1, nM1, w0, w39, w12, tn1, vi1_120, w71, sr1]
          refine PW_blk okM_ahead 12 rfl SpM_ok ?_
          simp only [wL0, w84]
          exact h5 v m rfl hv (by omega) hm _ hS2
    · intro i hi ih
      obtain ⟨g1, g2, v2, g3, g4⟩ := ok i (by omega)
      have hT := p2le _ hI.1.2
      obtain ⟨q1, q2, q3, q4⟩ := rst_ok hI hI.2.1.2 hne i (fun j hj => hm.2 j (by omega))
      obtain ⟨hk, -⟩ := pick_ok hI (by omega) q1 (hm.2 i hi)
      refine PW_blk okM_ahead 5 rfl SpM_ok ?_
      simp only [wL0, wLc, true_and, w1, lg0, lgi, lgr, lgl, w2, w33, kM0, w81, n1_0, n3_0, h7]
      refine b3Y (nI_lt hi (by omega)) ?_
      refine PW_blk okM_ahead 6 rfl SpM_ok ?_
      simp only [wL0, wLc, true_and, w2, lg0, lgi, lgr, lgl, w35, kM0, rM6, kM6, nM6, w1, w39, w54_2, q40, q41, q42, q43, q44, Option.toList_some, Option.toList_none, List.cons_append, List.nil_append, w7, ls00, ls0i, ls0r, ls0l, lsi, lsr, lsl, Option.map_some, w70, n1_6, n3_6, eq_true (vp_in_nI (show i < 10 by omega) (by decide)), nI_clamp (show i < 2 ^ 31 by omega), h6 i hi]
      refine R_comesOff (σ := sr (sr σ' 3 _) 1 _) (by rw [sr1]; exact g1) (by rw [sr1, ag_nv (SSq_ag i) (by decide)]; exact hk) ?_
      simp only [wL0, wLc, true_and, w2, lg0, lgi, lgr, lgl, w35, kM0, rM6, kM6, nM6, w1, w39, w54_2, q40, q41, q42, q43, q44, Option.toList_some, Option.toList_none, List.cons_append, List.nil_append, w7, ls00, ls0i, ls0r, ls0l, lsi, lsr, lsl, Option.map_some, w70, sr1, sr_sr]
      rw [show (1 : Int32) = nI 1 from rfl, nI_add]
      exact ih
end MF
