/-! link, linked -/
theorem Sq_of {σ σ' : St2} (h : Sm σ σ') : Sq σ σ' := by unfold Sq; rw [sr_eq (h.1 1 rfl).symm]; exact h
theorem linkO_b {S : Nat → Int32} (hI : Inv S) {p v : Nat} (hp : p < 10 * nv S 3) (h : linkO S p = some v) : v ≤ 133120 := by
  unfold linkO at h
  by_cases c : p / 10 ≠ p % 10 ∧ p % 10 < nv S 3 ∧ (nv S (tr (p / 10) 8)).testBit (p % 10) = false
  · rw [cif_y c] at h
    have := hI.2.1.1.2
    exact lst_lt (Inv_after hI (a := p / 10) (b := p % 10) (by omega) (by omega)) (by omega) h
  · rw [cif_n c] at h
    cases h
section ML
variable {ev : EV} {σ : St2} {K : PO}
theorem R_bestLink (hI : Inv (σ.1 1)) (hk : ∀ σ', Sm σ σ' → σ'.1 0 9 = eM (axU (linkO (σ.1 1)) (10 * nv (σ.1 1) 3)) → K (some (.int (eA (axU (linkO (σ.1 1)) (10 * nv (σ.1 1) 3))))) σ') : Rn 1 ev mM_bestLink [.ref 0] σ K := by
  have hoT := hI.2.1.2
  have hn := hI.1.2
  have hT := p2le _ hn
  have hfa := lim_b (n := 10 * nv (σ.1 1) 3) (f := linkO (σ.1 1)) (fun k v hk h => linkO_b hI hk h)
  rw [← ax_lim (n := 10 * nv (σ.1 1) 3) (f := linkO (σ.1 1)) _ (Nat.le_refl _)] at hk
  have hFk : ∀ p, p < 10 * nv (σ.1 1) 3 → lim (10 * nv (σ.1 1) 3) (linkO (σ.1 1)) p = linkO (σ.1 1) p := fun k hk => lim_in hk
  generalize hF : lim (10 * nv (σ.1 1) 3) (linkO (σ.1 1)) = F at *
  refine Rn_V (by decide) rc6 rfl rfl ?_
  refine PW_blk okM_bestLink 0 rfl SpM_ok ?_
  simp only [wL0, wLc, true_and, w0, w4, ls00, ls0i, ls0r, ls0l, lsi, lsr, lsl, Option.map_some, w2, lg0, lgi, lgr, lgl, w36, kM0, w71, si_is]
  have key := lp_up (n := 10 * nv (σ.1 1) 3) (P := fun p => ∀ σ', Sm σ σ' → σ'.1 0 9 = eM (axU F p) → PW 1 ev mM_bestLink 9 [.ref 0, .int (eA (axU F p)), .int (nI p)] [] σ' K) ?_ ?_ 0 (Nat.zero_le _) _ (Sm_f (j := 9) (v := -1) (by decide) (by decide) (Sm_r (σ := σ))) (by rw [sr1, updS]; rfl)
  · exact key
  · intro σ' hS h9
    have e1 : σ'.1 1 = σ.1 1 := hS.1 1 rfl
    refine PW_blk okM_bestLink 1 rfl SpM_ok ?_
    simp only [wL0, wLc, true_and, w1, lg0, lgi, lgr, lgl, w0, w2, w35, kM0, rM0, kM1, nM1, w39, w13, tn3, vi3_120, tn10, vi10_120, w81, e1, hI.1.1]
    rw [show (10 : Int32) = nI 10 from rfl, pk_mul]
    refine b3N (nI_nlt (Nat.le_refl _) (by omega)) ?_
    refine PW_blk okM_bestLink 17 rfl SpM_ok ?_
    simp only [wL0, wLc, true_and, w1, lg0, lgi, lgr, lgl, w84]
    exact hk σ' hS h9
  · intro p hp ih σ' hS h9
    have e1 : σ'.1 1 = σ.1 1 := hS.1 1 rfl
    have ha : p / 10 < nv (σ.1 1) 3 := by omega
    have ha10 : p / 10 < 10 := by omega
    have hb10 : p % 10 < 10 := by omega
    have hx := (hI.2.2.2.2.2.2.2.2.1 (p / 10) ha).2.2.2.2.2.2.2.2.1
    have hxl := hx.2
    have next : ∀ σ', Sm σ σ' → σ'.1 0 9 = eM (axU F (p + 1)) → PW 1 ev mM_bestLink 157 [.ref 0, .int (eA (axU F (p + 1))), .int (nI p)] [] σ' K := by
      intro σ' hS h9
      refine PW_blk okM_bestLink 16 rfl SpM_ok ?_
      simp only [wL0, wLc, true_and, w7, lg0, lgi, lgr, lgl, ls00, ls0i, ls0r, ls0l, lsi, lsr, lsl, Option.map_some, w70]
      rw [show (1 : Int32) = nI 1 from rfl, nI_add]
      exact ih σ' hS h9
    have no : ¬ (p / 10 ≠ p % 10 ∧ p % 10 < nv (σ.1 1) 3 ∧ (nv (σ.1 1) (tr (p / 10) 8)).testBit (p % 10) = false) → PW 1 ev mM_bestLink 157 [.ref 0, .int (eA (axU F p)), .int (nI p)] [] σ' K := by
      intro c
      have e0 : F p = none := by rw [hFk p hp]; exact cif_n c
      have e2 : axU F (p + 1) = axU F p := ax_n hfa (by rw [e0]; exact fun z => absurd z.1 (by decide))
      rw [e2] at next
      exact next σ' hS h9
    refine PW_blk okM_bestLink 1 rfl SpM_ok ?_
    simp only [wL0, wLc, true_and, w1, lg0, lgi, lgr, lgl, w0, w2, w35, kM0, rM0, kM1, nM1, w39, w13, tn3, vi3_120, tn10, vi10_120, w81, e1, hI.1.1]
    rw [show (10 : Int32) = nI 10 from rfl, pk_mul]
    refine b3Y (nI_lt (by omega) (by omega)) ?_
    refine PW_blk okM_bestLink 2 rfl SpM_ok ?_
    simp only [wL0, wLc, true_and, w1, lg0, lgi, lgr, lgl, w0, w14, w4, ls00, ls0i, ls0r, ls0l, lsi, lsr, lsl, Option.map_some, w15, w2, w54_3, q40, q41, q42, q43, q44, Option.toList_some, Option.toList_none, List.cons_append, List.nil_append, sp_get, w78]
    rw [show (10 : Int32) = nI 10 from rfl, pk_rem (a := p) (d := 10) (by omega) (by decide) (by decide), pk_div (a := p) (d := 10) (by omega) (by decide) (by decide)]
    refine ⟨by decide, by decide, ?_⟩
    simp only [gv8 ha10, gt8 ha10, true_and, e1]
    rw [nI_eq_iff (by omega) (by omega)]
    by_cases c1 : p / 10 = p % 10
    · refine b2Y c1 ?_
      exact PW_loc 3 (no (fun z => z.1 c1))
    refine b2N c1 ?_
    refine PW_blk okM_bestLink 3 rfl SpM_ok ?_
    simp only [wL0, wLc, true_and, w1, lg0, lgi, lgr, lgl, w2, w35, kM0, rM0, kM1, nM1, w0, w39, tn3, vi3_120, w81, e1, hI.1.1]
    by_cases c2 : p % 10 < nv (σ.1 1) 3
    rotate_left
    · refine b3N (nI_nlt (by omega) (by omega)) ?_
      exact PW_loc 3 (no (fun z => c2 z.2.1))
    refine b3Y (nI_lt c2 (by omega)) ?_
    refine PW_blk okM_bestLink 4 rfl SpM_ok ?_
    simp only [wL0, wLc, true_and, w1, lg0, lgi, lgr, lgl, w55_2, q40, q41, q42, q43, q44, Option.toList_some, Option.toList_none, List.cons_append, List.nil_append, sp_isIn, w73, hx.1]
    rw [isInF_n (by omega) (by omega)]
    by_cases c3 : (nv (σ.1 1) (tr (p / 10) 8)).testBit (p % 10) = true
    · rw [if_pos c3]
      refine b3N (by decide) ?_
      exact PW_loc 3 (no (fun z => by rw [c3] at z; exact absurd z.2.2 (by decide)))
    rw [if_neg c3]
    have c3' : (nv (σ.1 1) (tr (p / 10) 8)).testBit (p % 10) = false := by simpa using c3
    refine b3Y rfl ?_
    have hIs := Inv_after hI ha (b := p % 10) hb10
    have eG : upd (σ.1 1) (tr (p / 10) 8) (nI (nv (σ.1 1) (tr (p / 10) 8) ||| 2 ^ (p % 10))) 2 = nI (nv (σ.1 1) 2) := by rw [updN n2_tr]; exact hI.2.1.1.1
    have e2 : nv (upd (σ.1 1) (tr (p / 10) 8) (nI (nv (σ.1 1) (tr (p / 10) 8) ||| 2 ^ (p % 10)))) 2 = nv (σ.1 1) 2 := nv_ne n2_tr
    have e3 : nv (upd (σ.1 1) (tr (p / 10) 8) (nI (nv (σ.1 1) (tr (p / 10) 8) ||| 2 ^ (p % 10)))) 3 = nv (σ.1 1) 3 := nv_ne n3_tr
    refine PW_blk okM_bestLink 5 rfl SpM_ok ?_
    simp only [wL0, wLc, true_and, w2, lg0, lgi, lgr, lgl, w1, w0, w19, w17, w54_4, q40, q41, q42, q43, q44, Option.toList_some, Option.toList_none, List.cons_append, List.nil_append, sp_puts, w35, kM0, rM0, kM1, nM1, w39, w54_3, w4, ls00, ls0i, ls0r, ls0l, lsi, lsr, lsl, Option.map_some, tn0, vi0_120, tn1, vi1_120, tn2, vi2_120, tn8, vi8_120, w81, gv8 ha10, gt8 ha10, si_is, nI_sh1 (p % 10) (by omega), fa_or, sr1, e1, eG]
    refine R_leastFrom' (S := upd (σ.1 1) (tr (p / 10) 8) (nI (nv (σ.1 1) (tr (p / 10) 8) ||| 2 ^ (p % 10)))) (b := 0) (by rw [sr1]) hIs (by decide) (by rw [e3]; exact hoT) (fun r => ?_)
    simp only [wL0, wLc, true_and, w2, lg0, lgi, lgr, lgl, w1, w0, w19, w17, w54_4, q40, q41, q42, q43, q44, Option.toList_some, Option.toList_none, List.cons_append, List.nil_append, sp_puts, w35, kM0, rM0, kM1, nM1, w39, w54_3, w4, ls00, ls0i, ls0r, ls0l, lsi, lsr, lsl, Option.map_some, tn0, vi0_120, tn1, vi1_120, tn2, vi2_120, tn8, vi8_120, w81, gv8 ha10, gt8 ha10, si_is, n5_1, sr1]
    have hS2 : Sm σ (sr (sr (sr σ' 1 (upd (σ.1 1) (tr (p / 10) 8) (nI (nv (σ.1 1) (tr (p / 10) 8) ||| 2 ^ (p % 10))))) 5 r) 1 (upd (upd (σ.1 1) (tr (p / 10) 8) (nI (nv (σ.1 1) (tr (p / 10) 8) ||| 2 ^ (p % 10)))) (tr (p / 10) 8) (nI (nv (σ.1 1) (tr (p / 10) 8))))) := Sq_end (Sq_sr (by decide) (by decide) (Sq_1 (Sq_of hS))) (by rw [fa_upd_twice]; exact fa_upd_same hx.1)
    have h92 : (sr (sr (sr σ' 1 (upd (σ.1 1) (tr (p / 10) 8) (nI (nv (σ.1 1) (tr (p / 10) 8) ||| 2 ^ (p % 10))))) 5 r) 1 (upd (upd (σ.1 1) (tr (p / 10) 8) (nI (nv (σ.1 1) (tr (p / 10) 8) ||| 2 ^ (p % 10)))) (tr (p / 10) 8) (nI (nv (σ.1 1) (tr (p / 10) 8))))).1 0 9 = eM (axU F p) := by rw [n1_0, n5_0, n1_0, h9]
    generalize (sr (sr (sr σ' 1 (upd (σ.1 1) (tr (p / 10) 8) (nI (nv (σ.1 1) (tr (p / 10) 8) ||| 2 ^ (p % 10))))) 5 r) 1 (upd (upd (σ.1 1) (tr (p / 10) 8) (nI (nv (σ.1 1) (tr (p / 10) 8) ||| 2 ^ (p % 10)))) (tr (p / 10) 8) (nI (nv (σ.1 1) (tr (p / 10) 8))))) = σ2 at *
    have eF : lst (upd (σ.1 1) (tr (p / 10) 8) (nI (nv (σ.1 1) (tr (p / 10) 8) ||| 2 ^ (p % 10)))) 0 (nv (σ.1 1) 2) = F p := by rw [hFk p hp]; exact (cif_y ⟨c1, c2, c3'⟩).symm
    rw [eF]
    have keep : ¬ (encF (F p) < 99999999 ∧ eM (axU F p) < encF (F p)) → PW 1 ev mM_bestLink 125 [.ref 0, .int (eA (axU F p)), .int (nI p), .int (nI (p / 10)), .int (nI (p % 10)), .int (nI (nv (σ.1 1) (tr (p / 10) 8))), .int (encF (F p))] [] σ2 K := by
      intro c
      have a1 := ax_n hfa c
      refine PW_blk okM_bestLink 8 rfl SpM_ok ?_
      simp only [wL0, wLc, true_and, w0, w71]
      refine PW_blk okM_bestLink 9 rfl SpM_ok ?_
      simp only [wL0, wLc, true_and, w4, ls00, ls0i, ls0r, ls0l, lsi, lsr, lsl, Option.map_some, w1, lg0, lgi, lgr, lgl, w72]
      refine b2Y trivial ?_
      refine PW_blk okM_bestLink 11 rfl SpM_ok ?_
      simp only [wL0, wLc, true_and, w1, lg0, lgi, lgr, lgl, w71]
      refine PW_blk okM_bestLink 12 rfl SpM_ok ?_
      simp only [wL0, wLc, true_and, w4, ls00, ls0i, ls0r, ls0l, lsi, lsr, lsl, Option.map_some, w2, lg0, lgi, lgr, lgl, w1, w72]
      refine b2Y trivial ?_
      refine PW_blk okM_bestLink 14 rfl SpM_ok ?_
      simp only [wL0, wLc, true_and, w2, lg0, lgi, lgr, lgl, w33, kM0, w71]
      refine PW_blk okM_bestLink 15 rfl SpM_ok ?_
      simp only [wL0, wLc, true_and, w36, kM0, w71, si_is]
      refine PW_loc 3 ?_
      have nx := next (sr σ2 0 (upd (σ2.1 0) 9 (σ2.1 0 9))) (Sm_f (by decide) (by decide) hS2) (by rw [sr1, updS, h92, a1])
      rw [a1] at nx
      exact nx
    by_cases c : encF (F p) < 99999999
    rotate_left
    · refine b3N c ?_
      exact keep (fun z => c z.1)
    refine b3Y c ?_
    refine PW_blk okM_bestLink 6 rfl SpM_ok ?_
    simp only [wL0, wLc, true_and, w1, lg0, lgi, lgr, lgl, w2, w33, kM0, w83, h92]
    by_cases c4 : eM (axU F p) < encF (F p)
    rotate_left
    · refine b3N c4 ?_
      exact keep (fun z => c4 z.2)
    refine b3Y c4 ?_
    obtain ⟨a1, a2⟩ := ax_b hfa ⟨c, c4⟩
    refine PW_blk okM_bestLink 7 rfl SpM_ok ?_
    simp only [wL0, wLc, true_and, w0, w70]
    refine PW_blk okM_bestLink 9 rfl SpM_ok ?_
    simp only [wL0, wLc, true_and, w4, ls00, ls0i, ls0r, ls0l, lsi, lsr, lsl, Option.map_some, w1, lg0, lgi, lgr, lgl, w72]
    refine b2N (by decide) ?_
    refine PW_blk okM_bestLink 10 rfl SpM_ok ?_
    simp only [wL0, wLc, true_and, w1, lg0, lgi, lgr, lgl, w70]
    refine PW_blk okM_bestLink 12 rfl SpM_ok ?_
    simp only [wL0, wLc, true_and, w4, ls00, ls0i, ls0r, ls0l, lsi, lsr, lsl, Option.map_some, w2, lg0, lgi, lgr, lgl, w1, w72]
    refine b2N (by decide) ?_
    refine PW_blk okM_bestLink 13 rfl SpM_ok ?_
    simp only [wL0, wLc, true_and, w1, lg0, lgi, lgr, lgl, w70]
    refine PW_blk okM_bestLink 15 rfl SpM_ok ?_
    simp only [wL0, wLc, true_and, w36, kM0, w71, si_is]
    refine PW_loc 3 ?_
    have nx := next (sr σ2 0 (upd (σ2.1 0) 9 (encF (F p)))) (Sm_f (by decide) (by decide) hS2) (by rw [sr1, updS, a2])
    rw [a1] at nx
    exact nx
theorem R_link (hI : Inv (σ.1 1)) (h1 : axU (linkO (σ.1 1)) (10 * nv (σ.1 1) 3) = none → ∀ σ', Sm σ σ' → K (some (.int (-1000004))) (noS σ' 3)) (h2 : ∀ b c, axU (linkO (σ.1 1)) (10 * nv (σ.1 1) 3) = some (b, c) → ∀ σ', Sm σ σ' → K (some (.int (nI b))) σ') : Rn 1 ev mM_link [.ref 0] σ K := by
  have hn := hI.1.2
  refine Rn_V (by decide) rc6 rfl rfl ?_
  refine PW_blk okM_link 0 rfl SpM_ok ?_
  simp only [wL0, wLc, true_and, w2, lg0, lgi, lgr, lgl, w54_1, q40, q41, q42, q43, q44, Option.toList_some, Option.toList_none, List.cons_append, List.nil_append, w4, ls00, ls0i, ls0r, ls0l, lsi, lsr, lsl, Option.map_some, w1, w75]
  refine R_bestLink hI (fun σ' hS h9 => ?_)
  simp only [wL0, wLc, true_and, w2, lg0, lgi, lgr, lgl, w54_1, q40, q41, q42, q43, q44, Option.toList_some, Option.toList_none, List.cons_append, List.nil_append, w4, ls00, ls0i, ls0r, ls0l, lsi, lsr, lsl, Option.map_some, w1, w75]
  rw [eA_neg (fun b l hb => by
    rw [← ax_lim (n := 10 * nv (σ.1 1) 3) _ (Nat.le_refl _)] at hb
    have := axU_b (lim_b (n := 10 * nv (σ.1 1) 3) (f := linkO (σ.1 1)) (fun k v hk h => linkO_b hI hk h)) _ b l hb; omega)]
  cases e : axU (linkO (σ.1 1)) (10 * nv (σ.1 1) 3) with
  | none =>
    refine b3Y rfl ?_
    refine PW_blk okM_link 1 rfl SpM_ok ?_
    simp only [wL0, wLc, true_and, w2, lg0, lgi, lgr, lgl, w0, w54_2, q40, q41, q42, q43, q44, Option.toList_some, Option.toList_none, List.cons_append, List.nil_append, sp_no, v7_0, v7_1, v7_2, v7_3, v7_4, v7_5, v7_6, w70]
    refine PW_blk okM_link 3 rfl SpM_ok ?_
    simp only [wL0, w84]
    exact h1 e _ hS
  | some q =>
    obtain ⟨b, c⟩ := q
    refine b3N (fun z => by cases z) ?_
    refine PW_blk okM_link 2 rfl SpM_ok ?_
    simp only [wL0, wLc, true_and, w1, lg0, lgi, lgr, lgl, w71]
    refine PW_blk okM_link 3 rfl SpM_ok ?_
    simp only [wL0, w84]
    exact h2 b c e _ hS
theorem R_linked (hI : Inv (σ.1 1)) (h1 : axU (linkO (σ.1 1)) (10 * nv (σ.1 1) 3) = none → ∀ σ', Sm σ σ' → K (some (.int (-1000004))) (noS σ' 3)) (h2 : ∀ b c, axU (linkO (σ.1 1)) (10 * nv (σ.1 1) 3) = some (b, c) → ∀ σ', Sm σ σ' → K (some (.int (nI c))) σ') : Rn 1 ev mM_linked [.ref 0] σ K := by
  have hn := hI.1.2
  refine Rn_V (by decide) rc6 rfl rfl ?_
  refine PW_blk okM_linked 0 rfl SpM_ok ?_
  simp only [wL0, wLc, true_and, w2, lg0, lgi, lgr, lgl, w54_1, q40, q41, q42, q43, q44, Option.toList_some, Option.toList_none, List.cons_append, List.nil_append, w4, ls00, ls0i, ls0r, ls0l, lsi, lsr, lsl, Option.map_some, w1, w75]
  refine R_bestLink hI (fun σ' hS h9 => ?_)
  simp only [wL0, wLc, true_and, w2, lg0, lgi, lgr, lgl, w54_1, q40, q41, q42, q43, q44, Option.toList_some, Option.toList_none, List.cons_append, List.nil_append, w4, ls00, ls0i, ls0r, ls0l, lsi, lsr, lsl, Option.map_some, w1, w75]
  rw [eA_neg (fun b l hb => by
    rw [← ax_lim (n := 10 * nv (σ.1 1) 3) _ (Nat.le_refl _)] at hb
    have := axU_b (lim_b (n := 10 * nv (σ.1 1) 3) (f := linkO (σ.1 1)) (fun k v hk h => linkO_b hI hk h)) _ b l hb; omega)]
  cases e : axU (linkO (σ.1 1)) (10 * nv (σ.1 1) 3) with
  | none =>
    refine b3Y rfl ?_
    refine PW_blk okM_linked 1 rfl SpM_ok ?_
    simp only [wL0, wLc, true_and, w2, lg0, lgi, lgr, lgl, w0, w54_2, q40, q41, q42, q43, q44, Option.toList_some, Option.toList_none, List.cons_append, List.nil_append, sp_no, v7_0, v7_1, v7_2, v7_3, v7_4, v7_5, v7_6, w70]
    refine PW_blk okM_linked 3 rfl SpM_ok ?_
    simp only [wL0, w84]
    exact h1 e _ hS
  | some q =>
    obtain ⟨b, c⟩ := q
    rw [e] at h9
    refine b3N (fun z => by cases z) ?_
    refine PW_blk okM_linked 2 rfl SpM_ok ?_
    simp only [wL0, wLc, true_and, w2, lg0, lgi, lgr, lgl, w33, kM0, w71, h9]
    refine PW_blk okM_linked 3 rfl SpM_ok ?_
    simp only [wL0, w84]
    exact h2 b c e _ hS
end ML
