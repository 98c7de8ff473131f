/-! surest: odds in longs, and their gcd -/
theorem lN_ti63 {n : Nat} (h : n < 9223372036854775808) : (lN n).toInt = n := Int64.toInt_ofNat_of_lt h
theorem lN_e63 {a b : Nat} (ha : a < 9223372036854775808) (hb : b < 9223372036854775808) : lN a = lN b ↔ a = b := by
  rw [fa_eq64, lN_ti63 ha, lN_ti63 hb]; omega
theorem lN_l63 {a b : Nat} (ha : a < 9223372036854775808) (hb : b < 9223372036854775808) : lN a < lN b ↔ a < b := by
  rw [fa_lt64, lN_ti63 ha, lN_ti63 hb]; omega
theorem lN_div {a d : Nat} (ha : a < 9223372036854775808) (hd : d < 9223372036854775808) : lN a / lN d = lN (a / d) := by
  have hn : lN d ≠ -1 := by
    intro e
    have h2 := congrArg Int64.toInt e
    rw [lN_ti63 hd, show (-1 : Int64).toInt = -1 from by decide] at h2
    omega
  rw [fa_eq64, Int64.toInt_div_of_ne_right _ _ hn, lN_ti63 ha, lN_ti63 hd, lN_ti63 (Nat.lt_of_le_of_lt (Nat.div_le_self a d) ha)]
  rfl
theorem lN_rem {a d : Nat} (ha : a < 9223372036854775808) (hd : d < 9223372036854775808) : lN a - lN a / lN d * lN d = lN (a % d) := by
  rw [lN_div ha hd, lN_mul, lN_sub (Nat.div_mul_le_self a d)]
  exact congrArg lN (by have := Nat.div_add_mod' a d; omega)
theorem cmp_pos {a b : Nat} (ha : a < 9223372036854775808) (hb : b < 9223372036854775808) : 0 < lg_cmp (lN a) (lN b) ↔ b < a := by
  unfold lg_cmp
  by_cases h : b < a
  · rw [if_pos ((lN_l63 hb ha).mpr h)]
    exact ⟨fun _ => h, fun _ => by decide⟩
  · rw [if_neg (fun z => h ((lN_l63 hb ha).mp z))]
    refine ⟨fun z => ?_, fun z => absurd z h⟩
    split at z
    · exact absurd z (by decide)
    · exact absurd z (by decide)
theorem cmp_z {a b : Nat} (ha : a < 9223372036854775808) (hb : b < 9223372036854775808) : lg_cmp (lN a) (lN b) = 0 ↔ a = b := by
  unfold lg_cmp
  by_cases h : b < a
  · rw [if_pos ((lN_l63 hb ha).mpr h)]
    exact ⟨fun z => absurd z (by decide), fun z => by omega⟩
  · rw [if_neg (fun z => h ((lN_l63 hb ha).mp z))]
    by_cases e : a = b
    · rw [if_pos ((lN_e63 ha hb).mpr e)]
      exact ⟨fun _ => e, fun _ => rfl⟩
    · rw [if_neg (fun z => e ((lN_e63 ha hb).mp z))]
      exact ⟨fun z => absurd z (by decide), fun z => absurd z e⟩
def odU (S : Nat → Int32) (x : Nat) : Nat → Nat
  | 0 => 10000000000
  | k + 1 => if x.testBit k then odU S x k / 10 * (10 - nv S (tr k 7)) else odU S x k
def odN (S : Nat → Int32) (x : Nat) : Nat := odU S x (nv S 3)
theorem odU_le (S : Nat → Int32) (x : Nat) : ∀ k, odU S x k ≤ 10000000000
  | 0 => Nat.le_refl _
  | k + 1 => by
    have := odU_le S x k
    unfold odU
    split
    · have h2 : odU S x k / 10 * (10 - nv S (tr k 7)) ≤ odU S x k / 10 * 10 := Nat.mul_le_mul_left _ (by omega)
      omega
    · exact this
noncomputable def bsU (S : Nat → Int32) (o : Nat) : Nat → Nat
  | 0 => 0
  | t + 1 => cif (cw S 0 o t ≠ 0 ∧ outP S t ∧ bsU S o t < odN S (dif t o)) (odN S (dif t o)) (bsU S o t)
theorem bsU_le (S : Nat → Int32) (o : Nat) : ∀ t, bsU S o t ≤ 10000000000
  | 0 => Nat.zero_le _
  | t + 1 => by
    have := bsU_le S o t
    unfold bsU
    by_cases h : cw S 0 o t ≠ 0 ∧ outP S t ∧ bsU S o t < odN S (dif t o)
    · rw [cif_y h]; exact odU_le _ _ _
    · rw [cif_n h]; exact this
noncomputable def sureN (S : Nat → Int32) : Nat := bsU S (nv S 2) 1024
theorem ls_il {x : Int32} {y : Int64} {l : List Value} : lvSet (.int x :: l) 0 (.long y) = some [.long y] := rfl
section MM
variable {ev : EV} {σ : St2} {K : PO}
theorem R_surest {what : Int32} (hI : Inv (σ.1 1)) (h0 : ¬ rgI what 0 1 → K (some (.long (Int32.toInt64 (-1000001)))) (noS σ 0)) (h1 : rgI what 0 1 → sureN (σ.1 1) = 0 → ∀ σ', Sm σ σ' → K (some (.long (Int32.toInt64 (-1000004)))) (noS σ' 3)) (h2 : what = nI 0 → sureN (σ.1 1) ≠ 0 → ∀ σ', Sm σ σ' → K (some (.long (lN (sureN (σ.1 1) / Nat.gcd (sureN (σ.1 1)) 10000000000)))) σ') (h3 : what = nI 1 → sureN (σ.1 1) ≠ 0 → ∀ σ', Sm σ σ' → K (some (.long (lN (10000000000 / Nat.gcd (sureN (σ.1 1)) 10000000000)))) σ') : Rn 1 ev mM_surest [.ref 0, .int what] σ K := by
  have hG := hI.2.1.1
  have hoT := hI.2.1.2
  have hn := hI.1.2
  have hT := p2le _ hn
  refine Rn_V (by decide) rc6 rfl rfl ?_
  refine PW_blk okM_surest 0 rfl SpM_ok ?_
  simp only [wL0, wLc, true_and, w1, lg0, lgi, lgr, lgl, w0, w55_3, q40, q41, q42, q43, q44, Option.toList_some, Option.toList_none, List.cons_append, List.nil_append, sp_in1, w73]
  by_cases hr : rgI what 0 1
  rotate_left
  · refine dN (in1N (by decide) (by decide) hr) ?_
    refine PW_blk okM_surest 1 rfl SpM_ok ?_
    simp only [wL0, wLc, true_and, w2, lg0, lgi, lgr, lgl, w0, w54_2, q40, q41, q42, q43, q44, Option.toList_some, Option.toList_none, List.cons_append, List.nil_append, sp_no, v7_0, v7_1, v7_2, v7_3, v7_4, v7_5, v7_6, w28, w86]
    exact h0 hr
  refine dY (in1Y (by decide) hr) ?_
  obtain ⟨w, -, hw, rfl⟩ := hr
  refine PW_blk okM_surest 2 rfl SpM_ok ?_
  simp only [wL0, wLc, true_and, w2, lg0, lgi, lgr, lgl, w0, w54_2, q40, q41, q42, q43, q44, Option.toList_some, Option.toList_none, List.cons_append, List.nil_append, w53, w6, ls00, ls0i, ls0r, ls0l, lsi, lsr, lsl, Option.map_some, w4, w71]
  refine R_countsWays hI (fun r hr => ?_)
  simp only [wL0, wLc, true_and, w2, lg0, lgi, lgr, lgl, w0, w54_2, q40, q41, q42, q43, q44, Option.toList_some, Option.toList_none, List.cons_append, List.nil_append, w53, w6, ls00, ls0i, ls0r, ls0l, lsi, lsr, lsl, Option.map_some, w4, w71]
  have hSm : Sm σ (sr σ 7 r) := Sm_sr (by decide) (by decide) Sm_r
  have k1 := lp_up (n := 10) (P := fun k => PW 1 ev mM_surest 26 [.ref 0, .int (nI w), .long (lN (10 ^ k)), .int (nI k)] [] (sr σ 7 r) K) ?_ ?_ 0 (by decide)
  · exact k1
  · refine PW_blk okM_surest 3 rfl SpM_ok ?_
    simp only [wL0, wLc, true_and, w1, lg0, lgi, lgr, lgl, w0, w81]
    refine b3N (by decide) ?_
    refine PW_blk okM_surest 5 rfl SpM_ok ?_
    simp only [wL0, wLc, true_and, w53, w6, ls00, ls0i, ls0r, ls0l, lsi, lsr, lsl, Option.map_some, w0, w4, w71, ls_il]
    have k2 := lp_up (n := 1024) (P := fun t => PW 1 ev mM_surest 51 [.ref 0, .int (nI w), .long (lN 10000000000), .long (lN (bsU (σ.1 1) (nv (σ.1 1) 2) t)), .int (nI t)] [] (sr σ 7 r) K) ?_ ?_ 0 (by decide)
    · exact k2
    · refine PW_blk okM_surest 6 rfl SpM_ok ?_
      simp only [wL0, wLc, true_and, w1, lg0, lgi, lgr, lgl, w0, w81]
      refine b3N (by decide) ?_
      refine PW_blk okM_surest 19 rfl SpM_ok ?_
      simp only [wL0, wLc, true_and, w3, lg0, lgi, lgr, lgl, w53, w27, w73]
      have hsl := bsU_le (σ.1 1) (nv (σ.1 1) 2) 1024
      rw [cmp_z (by omega) (by decide)]
      by_cases hz : bsU (σ.1 1) (nv (σ.1 1) 2) 1024 = 0
      · refine b3Y hz ?_
        refine PW_blk okM_surest 20 rfl SpM_ok ?_
        simp only [wL0, wLc, true_and, w2, lg0, lgi, lgr, lgl, w0, w54_2, q40, q41, q42, q43, q44, Option.toList_some, Option.toList_none, List.cons_append, List.nil_append, sp_no, v7_0, v7_1, v7_2, v7_3, v7_4, v7_5, v7_6, w28, w86]
        exact h1 ⟨w, Nat.zero_le _, hw, rfl⟩ hz _ hSm
      refine b3N hz ?_
      refine PW_blk okM_surest 21 rfl SpM_ok ?_
      simp only [wL0, wLc, true_and, w3, lg0, lgi, lgr, lgl, w6, ls00, ls0i, ls0r, ls0l, lsi, lsr, lsl, Option.map_some, w71, ls_il]
      have k3 : ∀ n b a, b ≤ n → a < 9223372036854775808 → b < 9223372036854775808 → Nat.gcd a b = Nat.gcd (sureN (σ.1 1)) 10000000000 → PW 1 ev mM_surest 190 [.ref 0, .int (nI w), .long (lN 10000000000), .long (lN (sureN (σ.1 1))), .long (lN a), .long (lN b)] [] (sr σ 7 r) K := by
        intro n
        induction n with
        | zero =>
          intro b a hb ha hb2 hg
          have e : b = 0 := Nat.le_zero.mp hb
          subst e
          refine PW_blk okM_surest 22 rfl SpM_ok ?_
          simp only [wL0, wLc, true_and, w3, lg0, lgi, lgr, lgl, w53, w27, w72]
          rw [cmp_z (by omega) (by decide)]
          refine b2Y rfl ?_
          rw [Nat.gcd_zero_right] at hg
          have hapos : 0 < a := by
            rw [hg]
            exact Nat.gcd_pos_of_pos_right _ (by decide)
          refine PW_blk okM_surest 24 rfl SpM_ok ?_
          simp only [wL0, wLc, true_and, w1, lg0, lgi, lgr, lgl, w73]
          rcases (show w = 0 ∨ w = 1 by omega) with rfl | rfl
          · refine b3Y rfl ?_
            refine PW_blk okM_surest 25 rfl SpM_ok ?_
            simp only [wL0, wLc, true_and, w3, lg0, lgi, lgr, lgl, w25, w70]
            refine ⟨fun z => ?_, ?_⟩
            · have := (lN_e63 ha (by decide)).mp (show lN a = lN 0 from z); omega
            refine PW_blk okM_surest 27 rfl SpM_ok ?_
            simp only [wL0, w86]
            rw [lN_div (by unfold sureN; omega) ha, hg]
            exact h2 rfl hz _ hSm
          · refine b3N (by decide) ?_
            refine PW_blk okM_surest 26 rfl SpM_ok ?_
            simp only [wL0, wLc, true_and, w3, lg0, lgi, lgr, lgl, w25, w71]
            refine ⟨fun z => ?_, ?_⟩
            · have := (lN_e63 ha (by decide)).mp (show lN a = lN 0 from z); omega
            refine PW_blk okM_surest 27 rfl SpM_ok ?_
            simp only [wL0, w86]
            rw [lN_div (by decide) ha, hg]
            exact h3 rfl hz _ hSm
        | succ n ih =>
          intro b a hb ha hb2 hg
          by_cases e : b = 0
          · exact ih b a (by omega) ha hb2 hg
          refine PW_blk okM_surest 22 rfl SpM_ok ?_
          simp only [wL0, wLc, true_and, w3, lg0, lgi, lgr, lgl, w53, w27, w72]
          rw [cmp_z (by omega) (by decide)]
          refine b2N e ?_
          refine PW_blk okM_surest 23 rfl SpM_ok ?_
          simp only [wL0, wLc, true_and, w3, lg0, lgi, lgr, lgl, w26, w6, ls00, ls0i, ls0r, ls0l, lsi, lsr, lsl, Option.map_some, w70]
          rw [lN_rem ha hb2]
          refine ⟨fun z => e ((lN_e63 hb2 (by decide)).mp (show lN b = lN 0 from z)), ?_⟩
          have hlt := Nat.mod_lt a (Nat.pos_of_ne_zero e)
          refine PW_loc 6 ?_
          refine ih (a % b) b (by omega) hb2 (by omega) ?_
          rw [← hg, Nat.gcd_comm a b, Nat.gcd_rec b a, Nat.gcd_comm]
      exact k3 10000000000 10000000000 (sureN (σ.1 1)) (Nat.le_refl _) (by unfold sureN; omega) (by decide) rfl
    · intro t ht ih
      have hv : vp_in (nI t) 1024 := vp_in_nI ht (by decide)
      have cl : (nI t).toNatClampNeg = t := nI_clamp (by omega)
      have hsm := cw_small (S := σ.1 1) (stop := 0) (o := nv (σ.1 1) 2) hn (by omega) ht
      have hsl := bsU_le (σ.1 1) (nv (σ.1 1) 2) t
      have hol : odN (σ.1 1) (dif t (nv (σ.1 1) 2)) ≤ 10000000000 := odU_le _ _ _
      have hdl := dif_le t (nv (σ.1 1) 2)
      refine PW_blk okM_surest 6 rfl SpM_ok ?_
      simp only [wL0, wLc, true_and, w1, lg0, lgi, lgr, lgl, w0, w81]
      refine b3Y (nI_lt ht (by decide)) ?_
      refine PW_blk okM_surest 7 rfl SpM_ok ?_
      simp only [wL0, wLc, true_and, w3, lg0, lgi, lgr, lgl, w6, ls00, ls0i, ls0r, ls0l, lsi, lsr, lsl, Option.map_some, w0, w4, w71, ls_il]
      have k4 := lp_up (n := nv (σ.1 1) 3) (P := fun k => PW 1 ev mM_surest 65 [.ref 0, .int (nI w), .long (lN 10000000000), .long (lN (bsU (σ.1 1) (nv (σ.1 1) 2) t)), .int (nI t), .long (lN (odU (σ.1 1) (dif t (nv (σ.1 1) 2)) k)), .int (nI k)] [] (sr σ 7 r) K) ?_ ?_ 0 (Nat.zero_le _)
      · exact k4
      · refine PW_blk okM_surest 8 rfl SpM_ok ?_
        simp only [wL0, wLc, true_and, w1, lg0, lgi, lgr, lgl, w2, w35, kM0, rM0, kM1, nM1, w0, w39, tn3, vi3_120, w81, n7_1, hI.1.1]
        refine b3N (nI_nlt (Nat.le_refl _) (by omega)) ?_
        rw [show odU (σ.1 1) (dif t (nv (σ.1 1) 2)) (nv (σ.1 1) 3) = odN (σ.1 1) (dif t (nv (σ.1 1) 2)) from rfl]
        have e2 : bsU (σ.1 1) (nv (σ.1 1) 2) (t + 1) = cif (cw (σ.1 1) 0 (nv (σ.1 1) 2) t ≠ 0 ∧ outP (σ.1 1) t ∧ bsU (σ.1 1) (nv (σ.1 1) 2) t < odN (σ.1 1) (dif t (nv (σ.1 1) 2))) (odN (σ.1 1) (dif t (nv (σ.1 1) 2))) (bsU (σ.1 1) (nv (σ.1 1) 2) t) := rfl
        have last : ∀ x : Nat, x = bsU (σ.1 1) (nv (σ.1 1) 2) (t + 1) → PW 1 ev mM_surest 161 [.ref 0, .int (nI w), .long (lN 10000000000), .long (lN (bsU (σ.1 1) (nv (σ.1 1) 2) t)), .int (nI t), .long (lN (odN (σ.1 1) (dif t (nv (σ.1 1) 2)))), .int (nI (nv (σ.1 1) 3))] [.long (lN x)] (sr σ 7 r) K := by
          intro x hx
          subst hx
          refine PW_blk okM_surest 18 rfl SpM_ok ?_
          simp only [wL0, wLc, true_and, w6, ls00, ls0i, ls0r, ls0l, lsi, lsr, lsl, Option.map_some, w7, lg0, lgi, lgr, lgl, w70]
          refine PW_loc 5 ?_
          rw [show (1 : Int32) = nI 1 from rfl, nI_add]
          exact ih
        have no : ¬ (cw (σ.1 1) 0 (nv (σ.1 1) 2) t ≠ 0 ∧ outP (σ.1 1) t ∧ bsU (σ.1 1) (nv (σ.1 1) 2) t < odN (σ.1 1) (dif t (nv (σ.1 1) 2))) → PW 1 ev mM_surest 159 [.ref 0, .int (nI w), .long (lN 10000000000), .long (lN (bsU (σ.1 1) (nv (σ.1 1) 2) t)), .int (nI t), .long (lN (odN (σ.1 1) (dif t (nv (σ.1 1) 2)))), .int (nI (nv (σ.1 1) 3))] [] (sr σ 7 r) K := by
          intro hc
          refine PW_blk okM_surest 17 rfl SpM_ok ?_
          simp only [wL0, wLc, true_and, w3, lg0, lgi, lgr, lgl, w71]
          exact last _ (by rw [e2, cif_n hc])
        refine PW_blk okM_surest 13 rfl SpM_ok ?_
        simp only [wL0, wLc, true_and, w2, lg0, lgi, lgr, lgl, w35, kM0, rM8, kM7, nM7, w1, w39, w77, sr1, eq_true hv, cl, hr t ht]
        rw [nI_p0 (by omega)]
        by_cases c1 : cw (σ.1 1) 0 (nv (σ.1 1) 2) t ≠ 0
        rotate_left
        · exact b3N c1 (no (fun z => c1 z.1))
        refine b3Y c1 ?_
        refine PW_blk okM_surest 14 rfl SpM_ok ?_
        simp only [wL0, wLc, true_and, w2, lg0, lgi, lgr, lgl, w1, w54_2, q40, q41, q42, q43, q44, Option.toList_some, Option.toList_none, List.cons_append, List.nil_append, sp_isOut, w72, n7_1]
        by_cases c2 : outP (σ.1 1) t
        rotate_left
        · exact bN (if_neg c2) (no (fun z => c2 z.2.1))
        refine bY (if_pos c2) ?_
        refine PW_blk okM_surest 15 rfl SpM_ok ?_
        simp only [wL0, wLc, true_and, w3, lg0, lgi, lgr, lgl, w27, w77]
        rw [cmp_pos (by omega) (by omega)]
        by_cases c3 : bsU (σ.1 1) (nv (σ.1 1) 2) t < odN (σ.1 1) (dif t (nv (σ.1 1) 2))
        rotate_left
        · exact b3N c3 (no (fun z => c3 z.2.2))
        refine b3Y c3 ?_
        refine PW_blk okM_surest 16 rfl SpM_ok ?_
        simp only [wL0, wLc, true_and, w3, lg0, lgi, lgr, lgl, w70]
        exact last _ (by rw [e2, cif_y ⟨c1, c2, c3⟩])
      · intro k hk ih2
        have hk10 : k < 10 := by omega
        have hw7 := (hI.2.2.2.2.2.2.2.2.1 k hk).2.2.2.2.2.2.2.1
        have hol2 := odU_le (σ.1 1) (dif t (nv (σ.1 1) 2)) k
        have e2 : odU (σ.1 1) (dif t (nv (σ.1 1) 2)) (k + 1) = if (dif t (nv (σ.1 1) 2)).testBit k then odU (σ.1 1) (dif t (nv (σ.1 1) 2)) k / 10 * (10 - nv (σ.1 1) (tr k 7)) else odU (σ.1 1) (dif t (nv (σ.1 1) 2)) k := rfl
        rw [e2] at ih2
        refine PW_blk okM_surest 8 rfl SpM_ok ?_
        simp only [wL0, wLc, true_and, w1, lg0, lgi, lgr, lgl, w2, w35, kM0, rM0, kM1, nM1, w0, w39, tn3, vi3_120, w81, n7_1, hI.1.1]
        refine b3Y (nI_lt hk (by omega)) ?_
        refine PW_blk okM_surest 9 rfl SpM_ok ?_
        simp only [wL0, wLc, true_and, w1, lg0, lgi, lgr, lgl, w2, w35, kM0, rM0, kM1, nM1, w0, w39, w18, w16, w55_2, q40, q41, q42, q43, q44, Option.toList_some, Option.toList_none, List.cons_append, List.nil_append, sp_isIn, tn2, vi2_120, w72, n7_1, hG.1, dif_I]
        rw [isInF_n (by omega) (by omega)]
        by_cases hb : (dif t (nv (σ.1 1) 2)).testBit k = true
        · rw [if_pos hb] at ih2 ⊢
          refine bY rfl ?_
          have hle7 := hw7.2
          have e10 : (10 : Int32) - nI (nv (σ.1 1) (tr k 7)) = nI (10 - nv (σ.1 1) (tr k 7)) := by
            rw [show (10 : Int32) = nI 10 from rfl, pk_sub (by omega)]
          refine PW_blk okM_surest 10 rfl SpM_ok ?_
          simp only [wL0, wLc, true_and, w3, lg0, lgi, lgr, lgl, w53, w25, w0, w2, w1, w54_3, q40, q41, q42, q43, q44, Option.toList_some, Option.toList_none, List.cons_append, List.nil_append, sp_get, w12, w28, w24, w70, n7_1, gv7 hk10, gt7 hk10, hw7.1, e10]
          refine ⟨by decide, ?_⟩
          refine PW_blk okM_surest 12 rfl SpM_ok ?_
          simp only [wL0, wLc, true_and, w6, ls00, ls0i, ls0r, ls0l, lsi, lsr, lsl, Option.map_some, w7, lg0, lgi, lgr, lgl, w70]
          rw [nI_l (by omega), lN_div (by omega) (by decide), lN_mul, show (1 : Int32) = nI 1 from rfl, nI_add]
          exact ih2
        · rw [if_neg hb] at ih2 ⊢
          refine bN rfl ?_
          refine PW_blk okM_surest 11 rfl SpM_ok ?_
          simp only [wL0, wLc, true_and, w3, lg0, lgi, lgr, lgl, w71]
          refine PW_blk okM_surest 12 rfl SpM_ok ?_
          simp only [wL0, wLc, true_and, w6, ls00, ls0i, ls0r, ls0l, lsi, lsr, lsl, Option.map_some, w7, lg0, lgi, lgr, lgl, w70]
          rw [show (1 : Int32) = nI 1 from rfl, nI_add]
          exact ih2
  · intro k hk ih
    refine PW_blk okM_surest 3 rfl SpM_ok ?_
    simp only [wL0, wLc, true_and, w1, lg0, lgi, lgr, lgl, w0, w81]
    refine b3Y (nI_lt hk (by decide)) ?_
    refine PW_blk okM_surest 4 rfl SpM_ok ?_
    simp only [wL0, wLc, true_and, w3, lg0, lgi, lgr, lgl, w53, w24, w6, ls00, ls0i, ls0r, ls0l, lsi, lsr, lsl, Option.map_some, w7, w70]
    rw [lN_mul, show (1 : Int32) = nI 1 from rfl, nI_add, ← Nat.pow_succ]
    exact ih
end MM
