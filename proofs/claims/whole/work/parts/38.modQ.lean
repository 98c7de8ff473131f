/-! load, judge, images, count, status -/
theorem ldS_ag {S C : Nat → Int32} {j : Nat} : ∀ i x, (∀ k, k < i → x ≠ tr k 1) → ldS S C j i x = S x
  | 0, _, _ => rfl
  | i + 1, x, h => by
    unfold ldS
    rw [updN (h i (by omega))]
    exact ldS_ag i x (fun k hk => h k (by omega))
theorem jdU_ok {S N C : Nat → Int32} {j : Nat} (hI : Inv S) : ∀ c, (∀ i, i < c → okJ S N C j i) → jdU C j (nv S 2) c < 2 ^ nv S 3
  | 0, _ => hI.2.1.2
  | c + 1, h => by
    have hn := hI.1.2
    have ih := jdU_ok (j := j) hI c (fun i hi => h i (by omega))
    obtain ⟨-, k, hk, e, -⟩ := h c (by omega)
    unfold jdU
    rw [e, nI_clamp (show k < 2 ^ 31 by omega)]
    exact or_lt ih hk
theorem in1m {v : Int32} {m : Nat} (hm : m < 2147483648) (h : v = -1 ∨ rgI v 0 m) : in1F v (-1) (nI m) = 1 := by
  unfold in1F
  rcases h with h | ⟨n, -, hn, h⟩
  · subst h
    rw [if_neg (by decide), if_neg]
    rw [fa_lt, nI_toInt hm, show (-1 : Int32).toInt = -1 from by decide]
    omega
  · subst h
    rw [if_neg, if_neg (nI_nlt hn hm)]
    rw [fa_lt, nI_toInt (by omega), show (-1 : Int32).toInt = -1 from by decide]
    omega
theorem in1m' {v : Int32} {m : Nat} (hm : m < 2147483648) (h : ¬ (v = -1 ∨ rgI v 0 m)) : in1F v (-1) (nI m) = 0 := by
  unfold in1F
  by_cases h1 : v < -1
  · rw [if_pos h1]
  · rw [if_neg h1]
    by_cases h2 : nI m < v
    · rw [if_pos h2]
    · exfalso
      rw [fa_lt, show (-1 : Int32).toInt = -1 from by decide] at h1
      rw [fa_lt, nI_toInt hm] at h2
      by_cases e : v = -1
      · exact h (Or.inl e)
      · have e2 : v.toInt ≠ -1 := fun z => e ((fa_eq v (-1)).mpr (by rw [z]; decide))
        exact h (Or.inr (rgI_toInt (by omega) (by omega)))
section MQ
variable {ev : EV} {σ : St2} {K : PO}
theorem R_load {s : Int32} (hI : Inv (σ.1 1)) (hSh : ShI (σ.1 13) (σ.1 14)) (h1 : ¬ rgI s 0 3 → K (some (.int (-1000001))) (noS σ 0)) (h2 : ∀ j, j < 4 → s = nI j → σ.1 13 j = 0 → K (some (.int (-1000006))) (noS σ 5)) (h3 : ∀ j c, j < 4 → s = nI j → ¬ σ.1 13 j = 0 → (∀ i, i < c → okL (σ.1 1) (σ.1 14) (σ.1 15) j i) → ¬ okL (σ.1 1) (σ.1 14) (σ.1 15) j c → K (some (.int (nI c))) (sr σ 1 (ldS (σ.1 1) (σ.1 15) j c))) : Rn 1 ev mM_load [.ref 0, .int s] σ K := by
  have hn := hI.1.2
  refine Rn_V (by decide) rc6 rfl rfl ?_
  refine PW_blk okM_load 0 rfl SpM_ok ?_
  simp only [wL0, wLc, true_and, w2, lg0, lgi, lgr, lgl, w1, w54_2, q40, q41, q42, q43, q44, Option.toList_some, Option.toList_none, List.cons_append, List.nil_append, w4, ls00, ls0i, ls0r, ls0l, lsi, lsr, lsl, Option.map_some, w74]
  refine R_wrongSheet (fun a => ?_) (fun j a b c => ?_) (fun j hj e c => ?_)
  · simp only [wL0, wLc, true_and, w2, lg0, lgi, lgr, lgl, w1, w54_2, q40, q41, q42, q43, q44, Option.toList_some, Option.toList_none, List.cons_append, List.nil_append, w4, ls00, ls0i, ls0r, ls0l, lsi, lsr, lsl, Option.map_some, w74]
    refine b2N (by decide) ?_
    refine PW_blk okM_load 1 rfl SpM_ok ?_
    simp only [wL0, wLc, true_and, w2, lg0, lgi, lgr, lgl, w1, w54_2, q40, q41, q42, q43, q44, Option.toList_some, Option.toList_none, List.cons_append, List.nil_append, sp_no, v7_0, v7_1, v7_2, v7_3, v7_4, v7_5, v7_6, w84]
    exact h1 a
  · simp only [wL0, wLc, true_and, w2, lg0, lgi, lgr, lgl, w1, w54_2, q40, q41, q42, q43, q44, Option.toList_some, Option.toList_none, List.cons_append, List.nil_append, w4, ls00, ls0i, ls0r, ls0l, lsi, lsr, lsl, Option.map_some, w74]
    refine b2N (by decide) ?_
    refine PW_blk okM_load 1 rfl SpM_ok ?_
    simp only [wL0, wLc, true_and, w2, lg0, lgi, lgr, lgl, w1, w54_2, q40, q41, q42, q43, q44, Option.toList_some, Option.toList_none, List.cons_append, List.nil_append, sp_no, v7_0, v7_1, v7_2, v7_3, v7_4, v7_5, v7_6, w84]
    exact h2 j a b c
  · subst e
    simp only [wL0, wLc, true_and, w2, lg0, lgi, lgr, lgl, w1, w54_2, q40, q41, q42, q43, q44, Option.toList_some, Option.toList_none, List.cons_append, List.nil_append, w4, ls00, ls0i, ls0r, ls0l, lsi, lsr, lsl, Option.map_some, w74]
    refine b2Y (by decide) ?_
    have hN := (hSh j hj).2
    have hN2 := hN.2
    have hv : vp_in (nI j) 4 := vp_in_nI hj (by decide)
    have cl : (nI j).toNatClampNeg = j := nI_clamp (by omega)
    refine PW_blk okM_load 2 rfl SpM_ok ?_
    simp only [wL0, wLc, true_and, w0, w4, ls00, ls0i, ls0r, ls0l, lsi, lsr, lsl, Option.map_some, w71]
    have key := lp_up (n := 11) (P := fun i => (∀ q, q < i → okL (σ.1 1) (σ.1 14) (σ.1 15) j q) → PW 1 ev mM_load 18 [.ref 0, .int (nI j), .int (-1), .int (nI i)] [] (sr σ 1 (ldS (σ.1 1) (σ.1 15) j i)) K) ?_ ?_ 0 (by decide) (fun q h => absurd h (Nat.not_lt_zero q))
    · rw [show ldS (σ.1 1) (σ.1 15) j 0 = σ.1 1 from rfl, sr_self] at key
      exact key
    · intro h
      have := (h 10 (by decide)).2.1
      omega
    · intro i hi ih h
      have e3 : ldS (σ.1 1) (σ.1 15) j i 3 = nI (nv (σ.1 1) 3) := by rw [ldS_ag i 3 (fun k _ => n3_tr)]; exact hI.1.1
      have n3 : nv (ldS (σ.1 1) (σ.1 15) j i) 3 = nv (σ.1 1) 3 := nv_of e3 (by omega)
      have hr3 : rg (ldS (σ.1 1) (σ.1 15) j i) 3 10 := ⟨by rw [n3]; exact e3, by rw [n3]; exact hn⟩
      have stop : ¬ okL (σ.1 1) (σ.1 14) (σ.1 15) j i → PW 1 ev mM_load 79 [.ref 0, .int (nI j), .int (-1), .int (nI i)] [] (sr σ 1 (ldS (σ.1 1) (σ.1 15) j i)) K := by
        intro hno
        refine PW_blk okM_load 7 rfl SpM_ok ?_
        simp only [wL0, wLc, true_and, w1, lg0, lgi, lgr, lgl, w84]
        exact h3 j i hj rfl c h hno
      refine PW_blk okM_load 3 rfl SpM_ok ?_
      simp only [wL0, wLc, true_and, w1, lg0, lgi, lgr, lgl, w2, w35, kM0, rM21, kM14, nM14, w39, w81, n1_14, eq_true hv, cl, hN.1]
      by_cases c1 : i < nv (σ.1 14) j
      rotate_left
      · exact b3N (nI_nlt (by omega) (by omega)) (stop (fun z => c1 z.1))
      refine b3Y (nI_lt c1 (by omega)) ?_
      refine PW_blk okM_load 4 rfl SpM_ok ?_
      simp only [wL0, wLc, true_and, w2, lg0, lgi, lgr, lgl, w1, w54_2, q40, q41, q42, q43, q44, Option.toList_some, Option.toList_none, List.cons_append, List.nil_append, sp_isLock, w72, sr1]
      by_cases c2 : i < nv (σ.1 1) 3
      rotate_left
      · refine bN (in1LN hr3 (fun ⟨k, a, b⟩ => ?_)) (stop (fun z => c2 z.2.1))
        rw [nI_eq_iff (by omega) (by omega)] at b
        omega
      refine bY (in1LY hr3 ⟨i, by omega, rfl⟩) ?_
      have hv2 : vp_in (nI (40 * j + i)) 160 := vp_in_nI (by omega) (by decide)
      have cl2 : (nI (40 * j + i)).toNatClampNeg = 40 * j + i := nI_clamp (by omega)
      have e40 : (40 : Int32) * nI j + nI i = nI (40 * j + i) := by rw [show (40 : Int32) = nI 40 from rfl, pk_mul, nI_add]
      refine PW_blk okM_load 5 rfl SpM_ok ?_
      simp only [wL0, wLc, true_and, w2, lg0, lgi, lgr, lgl, w35, kM0, rM22, kM15, nM15, w0, w1, w13, w11, w39, w55_3, q40, q41, q42, q43, q44, Option.toList_some, Option.toList_none, List.cons_append, List.nil_append, sp_in1, tn1, w72, n1_15, e40, eq_true hv2, cl2]
      by_cases c3 : rgI (σ.1 15 (40 * j + i)) 1 60
      rotate_left
      · exact bN (in1N (a := 1) (by decide) (by decide) c3) (stop (fun z => c3 z.2.2))
      refine bY (in1Y (a := 1) (by decide) c3) ?_
      have hi10 : i < 10 := by omega
      refine PW_blk okM_load 6 rfl SpM_ok ?_
      simp only [wL0, wLc, true_and, w2, lg0, lgi, lgr, lgl, w1, w0, w35, kM0, rM22, kM15, nM15, w13, w11, w39, w54_4, q40, q41, q42, q43, q44, Option.toList_some, Option.toList_none, List.cons_append, List.nil_append, sp_puts, w7, ls00, ls0i, ls0r, ls0l, lsi, lsr, lsl, Option.map_some, tn1, w70, n1_15, e40, eq_true hv2, cl2, gv1 hi10, gt1 hi10, si_sr]
      rw [show (1 : Int32) = nI 1 from rfl, nI_add]
      refine ih (fun q hq => ?_)
      by_cases e : q = i
      · subst e; exact ⟨c1, c2, c3⟩
      · exact h q (by omega)
theorem R_judge {s : Int32} (hI : Inv (σ.1 1)) (hSh : ShI (σ.1 13) (σ.1 14)) (h1 : ¬ rgI s 0 3 → K (some (.int (-1000001))) (noS σ 0)) (h2 : ∀ j, j < 4 → s = nI j → σ.1 13 j = 0 → K (some (.int (-1000006))) (noS σ 5)) (h3 : ∀ j c, j < 4 → s = nI j → ¬ σ.1 13 j = 0 → (∀ i, i < c → okJ (σ.1 1) (σ.1 14) (σ.1 15) j i) → ¬ okJ (σ.1 1) (σ.1 14) (σ.1 15) j c → K (some (.int (if c = nv (σ.1 14) j then 0 else nI (1 + c)))) σ) : Rn 1 ev mM_judge [.ref 0, .int s] σ K := by
  have hn := hI.1.2
  have hT := p2le _ hn
  have hG := hI.2.1.1
  refine Rn_V (by decide) rc6 rfl rfl ?_
  refine PW_blk okM_judge 0 rfl SpM_ok ?_
  simp only [wL0, wLc, true_and, w2, lg0, lgi, lgr, lgl, w1, w54_2, q40, q41, q42, q43, q44, Option.toList_some, Option.toList_none, List.cons_append, List.nil_append, w4, ls00, ls0i, ls0r, ls0l, lsi, lsr, lsl, Option.map_some, w74]
  refine R_wrongSheet (fun a => ?_) (fun j a b c => ?_) (fun j hj e c => ?_)
  · simp only [wL0, wLc, true_and, w2, lg0, lgi, lgr, lgl, w1, w54_2, q40, q41, q42, q43, q44, Option.toList_some, Option.toList_none, List.cons_append, List.nil_append, w4, ls00, ls0i, ls0r, ls0l, lsi, lsr, lsl, Option.map_some, w74]
    refine b2N (by decide) ?_
    refine PW_blk okM_judge 1 rfl SpM_ok ?_
    simp only [wL0, wLc, true_and, w2, lg0, lgi, lgr, lgl, w1, w54_2, q40, q41, q42, q43, q44, Option.toList_some, Option.toList_none, List.cons_append, List.nil_append, sp_no, v7_0, v7_1, v7_2, v7_3, v7_4, v7_5, v7_6, w84]
    exact h1 a
  · simp only [wL0, wLc, true_and, w2, lg0, lgi, lgr, lgl, w1, w54_2, q40, q41, q42, q43, q44, Option.toList_some, Option.toList_none, List.cons_append, List.nil_append, w4, ls00, ls0i, ls0r, ls0l, lsi, lsr, lsl, Option.map_some, w74]
    refine b2N (by decide) ?_
    refine PW_blk okM_judge 1 rfl SpM_ok ?_
    simp only [wL0, wLc, true_and, w2, lg0, lgi, lgr, lgl, w1, w54_2, q40, q41, q42, q43, q44, Option.toList_some, Option.toList_none, List.cons_append, List.nil_append, sp_no, v7_0, v7_1, v7_2, v7_3, v7_4, v7_5, v7_6, w84]
    exact h2 j a b c
  · subst e
    simp only [wL0, wLc, true_and, w2, lg0, lgi, lgr, lgl, w1, w54_2, q40, q41, q42, q43, q44, Option.toList_some, Option.toList_none, List.cons_append, List.nil_append, w4, ls00, ls0i, ls0r, ls0l, lsi, lsr, lsl, Option.map_some, w74]
    refine b2Y (by decide) ?_
    have hN := (hSh j hj).2
    have hN2 := hN.2
    have hv : vp_in (nI j) 4 := vp_in_nI hj (by decide)
    have cl : (nI j).toNatClampNeg = j := nI_clamp (by omega)
    refine PW_blk okM_judge 2 rfl SpM_ok ?_
    simp only [wL0, wLc, true_and, w2, lg0, lgi, lgr, lgl, w35, kM0, rM0, kM1, nM1, w0, w39, w4, ls00, ls0i, ls0r, ls0l, lsi, lsr, lsl, Option.map_some, tn0, vi0_120, tn2, vi2_120, w71, hG.1]
    have key := lp_up (n := 41) (P := fun i => (∀ q, q < i → okJ (σ.1 1) (σ.1 14) (σ.1 15) j q) → PW 1 ev mM_judge 26 [.ref 0, .int (nI j), .int (-1), .int (nI (jdU (σ.1 15) j (nv (σ.1 1) 2) i)), .int (nI i)] [] σ K) ?_ ?_ 0 (by decide) (fun q h => absurd h (Nat.not_lt_zero q))
    · exact key
    · intro h
      have := (h 40 (by decide)).1
      omega
    · intro i hi ih h
      have hjd := jdU_ok (j := j) hI i h
      have stop : ¬ okJ (σ.1 1) (σ.1 14) (σ.1 15) j i → PW 1 ev mM_judge 102 [.ref 0, .int (nI j), .int (-1), .int (nI (jdU (σ.1 15) j (nv (σ.1 1) 2) i)), .int (nI i)] [] σ K := by
        intro hno
        have hkk := h3 j i hj rfl c h hno
        refine PW_blk okM_judge 7 rfl SpM_ok ?_
        simp only [wL0, wLc, true_and, w1, lg0, lgi, lgr, lgl, w2, w35, kM0, rM21, kM14, nM14, w39, w79, eq_true hv, cl, hN.1]
        rw [nI_eq_iff (by omega) (by omega)]
        by_cases e : i = nv (σ.1 14) j
        · rw [if_pos e] at hkk
          refine b3Y e ?_
          refine PW_blk okM_judge 8 rfl SpM_ok ?_
          simp only [wL0, wLc, true_and, w0, w70]
          refine PW_blk okM_judge 10 rfl SpM_ok ?_
          simp only [wL0, w84]
          exact hkk
        · rw [if_neg e] at hkk
          refine b3N e ?_
          refine PW_blk okM_judge 9 rfl SpM_ok ?_
          simp only [wL0, wLc, true_and, w0, w1, lg0, lgi, lgr, lgl, w11, w71]
          refine PW_blk okM_judge 10 rfl SpM_ok ?_
          simp only [wL0, w84]
          rw [show (1 : Int32) = nI 1 from rfl, nI_add]
          exact hkk
      refine PW_blk okM_judge 3 rfl SpM_ok ?_
      simp only [wL0, wLc, true_and, w1, lg0, lgi, lgr, lgl, w2, w35, kM0, rM21, kM14, nM14, w39, w81, eq_true hv, cl, hN.1]
      by_cases c1 : i < nv (σ.1 14) j
      rotate_left
      · exact b3N (nI_nlt (by omega) (by omega)) (stop (fun z => c1 z.1))
      refine b3Y (nI_lt c1 (by omega)) ?_
      have hv2 : vp_in (nI (40 * j + i)) 160 := vp_in_nI (by omega) (by decide)
      have cl2 : (nI (40 * j + i)).toNatClampNeg = 40 * j + i := nI_clamp (by omega)
      have e40 : (40 : Int32) * nI j + nI i = nI (40 * j + i) := by rw [show (40 : Int32) = nI 40 from rfl, pk_mul, nI_add]
      refine PW_blk okM_judge 4 rfl SpM_ok ?_
      simp only [wL0, wLc, true_and, w2, lg0, lgi, lgr, lgl, w35, kM0, rM22, kM15, nM15, w0, w1, w13, w11, w39, w54_2, q40, q41, q42, q43, q44, Option.toList_some, Option.toList_none, List.cons_append, List.nil_append, sp_isLock, w72, e40, eq_true hv2, cl2]
      by_cases c2 : hasL (σ.1 1) (σ.1 15 (40 * j + i))
      rotate_left
      · exact bN (in1LN hI.1 c2) (stop (fun ⟨_, k, a, b, _⟩ => c2 ⟨k, a, b⟩))
      refine bY (in1LY hI.1 c2) ?_
      obtain ⟨k, hk, ek⟩ := c2
      have hml := mayN_lt (σ.1 1) (jdU (σ.1 15) j (nv (σ.1 1) 2) i)
      refine PW_blk okM_judge 5 rfl SpM_ok ?_
      simp only [wL0, wLc, true_and, w2, lg0, lgi, lgr, lgl, w1, w54_2, q40, q41, q42, q43, q44, Option.toList_some, Option.toList_none, List.cons_append, List.nil_append, w35, kM0, rM22, kM15, nM15, w0, w13, w11, w39, w55_2, sp_isIn, w72]
      refine R_mayBy hI (by omega) ?_
      simp only [wL0, wLc, true_and, w2, lg0, lgi, lgr, lgl, w1, w54_2, q40, q41, q42, q43, q44, Option.toList_some, Option.toList_none, List.cons_append, List.nil_append, w35, kM0, rM22, kM15, nM15, w0, w13, w11, w39, w55_2, sp_isIn, w72, e40, eq_true hv2, cl2, ek]
      rw [isInF_n (by omega) (by omega)]
      by_cases c3 : (mayN (σ.1 1) (jdU (σ.1 15) j (nv (σ.1 1) 2) i)).testBit k = true
      rotate_left
      · refine bN (if_neg c3) (stop (fun ⟨_, k', a, b, d⟩ => ?_))
        rw [ek, nI_eq_iff (by omega) (by omega)] at b
        subst b
        exact c3 d
      refine bY (if_pos c3) ?_
      have ej : jdU (σ.1 15) j (nv (σ.1 1) 2) (i + 1) = jdU (σ.1 15) j (nv (σ.1 1) 2) i ||| 2 ^ k := by
        show _ ||| 2 ^ (σ.1 15 (40 * j + i)).toNatClampNeg = _
        rw [ek, nI_clamp (show k < 2 ^ 31 by omega)]
      rw [ej] at ih
      refine PW_blk okM_judge 6 rfl SpM_ok ?_
      simp only [wL0, wLc, true_and, w1, lg0, lgi, lgr, lgl, w0, w2, w35, kM0, rM22, kM15, nM15, w13, w11, w39, w19, w17, w4, ls00, ls0i, ls0r, ls0l, lsi, lsr, lsl, Option.map_some, w7, tn1, w70, e40, eq_true hv2, cl2, ek, nI_sh1 k (by omega), fa_or]
      rw [show (1 : Int32) = nI 1 from rfl, nI_add]
      refine ih (fun q hq => ?_)
      by_cases e : q = i
      · subst e; exact ⟨c1, k, hk, ek, c3⟩
      · exact h q (by omega)
theorem R_image (hk : K (some (.int 1)) (sr (sr σ 2 (fa_fill (σ.1 1) (σ.1 2) 120)) 0 (upd (σ.1 0) 3 1))) : Rn 1 ev mM_image [.ref 0] σ K := by
  refine Rn_V (by decide) rc6 rfl rfl ?_
  refine PW_blk okM_image 0 rfl SpM_ok ?_
  simp only [wL0, wLc, true_and, w0, w4, ls00, ls0i, ls0r, ls0l, lsi, lsr, lsl, Option.map_some, w71]
  have key := lp_up (n := 120) (P := fun i => PW 1 ev mM_image 2 [.ref 0, .int (nI i)] [] (sr σ 2 (fa_fill (σ.1 1) (σ.1 2) i)) K) ?_ ?_ 0 (by decide)
  · rw [fa_fill_0, sr_self] at key
    exact key
  · refine PW_blk okM_image 1 rfl SpM_ok ?_
    simp only [wL0, wLc, true_and, w1, lg0, lgi, lgr, lgl, w0, w81]
    refine b3N (by decide) ?_
    refine PW_blk okM_image 3 rfl SpM_ok ?_
    simp only [wL0, wLc, true_and, w2, lg0, lgi, lgr, lgl, w0, w37, kM0, w84, si_is, n2_0]
    exact ⟨Or.inr trivial, hk⟩
  · intro i hi ih
    refine PW_blk okM_image 1 rfl SpM_ok ?_
    simp only [wL0, wLc, true_and, w1, lg0, lgi, lgr, lgl, w0, w81]
    refine b3Y (nI_lt hi (by decide)) ?_
    refine PW_blk okM_image 2 rfl SpM_ok ?_
    simp only [wL0, wLc, true_and, w2, lg0, lgi, lgr, lgl, w35, kM0, rM1, kM2, nM2, w1, rM0, kM1, nM1, w39, w40, w7, ls00, ls0i, ls0r, ls0l, lsi, lsr, lsl, Option.map_some, w70, n2_1, eq_true (vp_in_nI (show i < 120 by omega) (by decide)), nI_clamp (show i < 2 ^ 31 by omega), si_sr, fa_fill_succ]
    rw [show (1 : Int32) = nI 1 from rfl, nI_add]
    exact ih
theorem R_undo (h1 : σ.1 0 3 = 0 → K (some (.int (-1000004))) (noS σ 3)) (h2 : ¬ σ.1 0 3 = 0 → K (some (.int (σ.1 2 0))) (sr σ 1 (fa_fill (σ.1 2) (σ.1 1) 120))) : Rn 1 ev mM_undo [.ref 0] σ K := by
  refine Rn_V (by decide) rc6 rfl rfl ?_
  refine PW_blk okM_undo 0 rfl SpM_ok ?_
  simp only [wL0, wLc, true_and, w2, lg0, lgi, lgr, lgl, w33, kM0, w73]
  by_cases h : σ.1 0 3 = 0
  · refine b3Y h ?_
    refine PW_blk okM_undo 1 rfl SpM_ok ?_
    simp only [wL0, wLc, true_and, w2, lg0, lgi, lgr, lgl, w0, w54_2, q40, q41, q42, q43, q44, Option.toList_some, Option.toList_none, List.cons_append, List.nil_append, sp_no, v7_0, v7_1, v7_2, v7_3, v7_4, v7_5, v7_6, w84]
    exact h1 h
  refine b3N h ?_
  refine PW_blk okM_undo 2 rfl SpM_ok ?_
  simp only [wL0, wLc, true_and, w0, w4, ls00, ls0i, ls0r, ls0l, lsi, lsr, lsl, Option.map_some, w71]
  have key := lp_up (n := 120) (P := fun i => PW 1 ev mM_undo 15 [.ref 0, .int (nI i)] [] (sr σ 1 (fa_fill (σ.1 2) (σ.1 1) i)) K) ?_ ?_ 0 (by decide)
  · rw [fa_fill_0, sr_self] at key
    exact key
  · refine PW_blk okM_undo 3 rfl SpM_ok ?_
    simp only [wL0, wLc, true_and, w1, lg0, lgi, lgr, lgl, w0, w81]
    refine b3N (by decide) ?_
    refine PW_blk okM_undo 5 rfl SpM_ok ?_
    simp only [wL0, wLc, true_and, w2, lg0, lgi, lgr, lgl, w35, kM0, rM0, kM1, nM1, w0, w39, tn0, vi0_120, w84, sr1]
    rw [fa_fill_in (by decide)]
    exact h2 h
  · intro i hi ih
    refine PW_blk okM_undo 3 rfl SpM_ok ?_
    simp only [wL0, wLc, true_and, w1, lg0, lgi, lgr, lgl, w0, w81]
    refine b3Y (nI_lt hi (by decide)) ?_
    refine PW_blk okM_undo 4 rfl SpM_ok ?_
    simp only [wL0, wLc, true_and, w2, lg0, lgi, lgr, lgl, w35, kM0, rM0, kM1, nM1, w1, rM1, kM2, nM2, w39, w40, w7, ls00, ls0i, ls0r, ls0l, lsi, lsr, lsl, Option.map_some, w70, n1_2, eq_true (vp_in_nI (show i < 120 by omega) (by decide)), nI_clamp (show i < 2 ^ 31 by omega), si_sr, fa_fill_succ]
    rw [show (1 : Int32) = nI 1 from rfl, nI_add]
    exact ih
theorem R_tear (hk : K (some (.int (if σ.1 0 3 = 0 then 0 else 1))) (sr σ 0 (upd (σ.1 0) 3 0))) : Rn 1 ev mM_tear [.ref 0] σ K := by
  refine Rn_V (by decide) rc6 rfl rfl ?_
  refine PW_blk okM_tear 0 rfl SpM_ok ?_
  simp only [wL0, wLc, true_and, w2, lg0, lgi, lgr, lgl, w33, kM0, w72]
  by_cases h : σ.1 0 3 = 0
  · rw [if_pos h] at hk
    refine b2Y h ?_
    refine PW_blk okM_tear 2 rfl SpM_ok ?_
    simp only [wL0, wLc, true_and, w0, w71]
    refine PW_blk okM_tear 3 rfl SpM_ok ?_
    simp only [wL0, wLc, true_and, w4, ls00, ls0i, ls0r, ls0l, lsi, lsr, lsl, Option.map_some, w2, lg0, lgi, lgr, lgl, w0, w37, kM0, w1, w84, si_is]
    exact ⟨Or.inl trivial, hk⟩
  · rw [if_neg h] at hk
    refine b2N h ?_
    refine PW_blk okM_tear 1 rfl SpM_ok ?_
    simp only [wL0, wLc, true_and, w0, w70]
    refine PW_blk okM_tear 3 rfl SpM_ok ?_
    simp only [wL0, wLc, true_and, w4, ls00, ls0i, ls0r, ls0l, lsi, lsr, lsl, Option.map_some, w2, lg0, lgi, lgr, lgl, w0, w37, kM0, w1, w84, si_is]
    exact ⟨Or.inl trivial, hk⟩
noncomputable def cntF (S : Nat → Int32) (tp : Int32) (w : Nat) : Int32 := if w = 0 then S 0 else if w = 1 then S 3 else if w = 2 then nI (pcn (nv S 2)) else if w = 3 then S 1 else if w = 4 then nI (suU (fun k => nv S (tr k 1)) (nv S 3)) else if w = 5 then tp else if w = 6 then S 9 else nI (suU (fun k => if S (110 + k) < 0 then 0 else 1) 10)
theorem R_count {v : Int32} (hI : Inv (σ.1 1)) (h1 : ¬ rgI v 0 7 → K (some (.int (-1000001))) (noS σ 0)) (h2 : ∀ w, w ≤ 7 → v = nI w → K (some (.int (cntF (σ.1 1) (σ.1 0 11) w))) σ) : Rn 1 ev mM_count [.ref 0, .int v] σ K := by
  have hG := hI.2.1.1
  have hG2 := hG.2
  have hn := hI.1.2
  refine Rn_V (by decide) rc6 rfl rfl ?_
  refine PW_blk okM_count 0 rfl SpM_ok ?_
  simp only [wL0, wLc, true_and, w0, w4, ls00, ls0i, ls0r, ls0l, lsi, lsr, lsl, Option.map_some, w1, lg0, lgi, lgr, lgl, w90, wS0, wSc]
  by_cases hw : rgI v 0 7
  rotate_left
  · have hw' := h1 hw
    refine ⟨fun h => absurd ⟨0, by decide, by decide, h⟩ hw, fun _ => ?_⟩
    refine ⟨fun h => absurd ⟨1, by decide, by decide, h⟩ hw, fun _ => ?_⟩
    refine ⟨fun h => absurd ⟨2, by decide, by decide, h⟩ hw, fun _ => ?_⟩
    refine ⟨fun h => absurd ⟨3, by decide, by decide, h⟩ hw, fun _ => ?_⟩
    refine ⟨fun h => absurd ⟨4, by decide, by decide, h⟩ hw, fun _ => ?_⟩
    refine ⟨fun h => absurd ⟨5, by decide, by decide, h⟩ hw, fun _ => ?_⟩
    refine ⟨fun h => absurd ⟨6, by decide, by decide, h⟩ hw, fun _ => ?_⟩
    refine ⟨fun h => absurd ⟨7, by decide, by decide, h⟩ hw, fun _ => ?_⟩
    refine PW_blk okM_count 18 rfl SpM_ok ?_
    simp only [wL0, wLc, true_and, w2, lg0, lgi, lgr, lgl, w0, w54_2, q40, q41, q42, q43, q44, Option.toList_some, Option.toList_none, List.cons_append, List.nil_append, sp_no, v7_0, v7_1, v7_2, v7_3, v7_4, v7_5, v7_6, w84]
    exact hw'
  obtain ⟨w, -, hw, rfl⟩ := hw
  have hkk := h2 w hw rfl
  rcases (show w = 0 ∨ w = 1 ∨ w = 2 ∨ w = 3 ∨ w = 4 ∨ w = 5 ∨ w = 6 ∨ w = 7 by omega) with rfl | rfl | rfl | rfl | rfl | rfl | rfl | rfl
  · refine ⟨fun _ => ?_, fun h => absurd rfl h⟩
    refine PW_blk okM_count 1 rfl SpM_ok ?_
    simp only [wL0, wLc, true_and, w2, lg0, lgi, lgr, lgl, w35, kM0, rM0, kM1, nM1, w0, w39, tn0, vi0_120, w84]
    exact hkk
  · refine ⟨fun h => absurd h (by decide), fun _ => ?_⟩
    refine ⟨fun _ => ?_, fun h => absurd rfl h⟩
    refine PW_blk okM_count 2 rfl SpM_ok ?_
    simp only [wL0, wLc, true_and, w2, lg0, lgi, lgr, lgl, w35, kM0, rM0, kM1, nM1, w0, w39, tn3, vi3_120, w84]
    exact hkk
  · refine ⟨fun h => absurd h (by decide), fun _ => ?_⟩
    refine ⟨fun h => absurd h (by decide), fun _ => ?_⟩
    refine ⟨fun _ => ?_, fun h => absurd rfl h⟩
    refine PW_blk okM_count 3 rfl SpM_ok ?_
    simp only [wL0, wLc, true_and, w2, lg0, lgi, lgr, lgl, w35, kM0, rM0, kM1, nM1, w0, w39, w55_1, q40, q41, q42, q43, q44, Option.toList_some, Option.toList_none, List.cons_append, List.nil_append, tn2, vi2_120, w84, hG.1]
    refine R_bits (by omega) ?_
    simp only [wL0, wLc, true_and, w2, lg0, lgi, lgr, lgl, w35, kM0, rM0, kM1, nM1, w0, w39, w55_1, q40, q41, q42, q43, q44, Option.toList_some, Option.toList_none, List.cons_append, List.nil_append, tn2, vi2_120, w84]
    exact hkk
  · refine ⟨fun h => absurd h (by decide), fun _ => ?_⟩
    refine ⟨fun h => absurd h (by decide), fun _ => ?_⟩
    refine ⟨fun h => absurd h (by decide), fun _ => ?_⟩
    refine ⟨fun _ => ?_, fun h => absurd rfl h⟩
    refine PW_blk okM_count 4 rfl SpM_ok ?_
    simp only [wL0, wLc, true_and, w2, lg0, lgi, lgr, lgl, w35, kM0, rM0, kM1, nM1, w0, w39, tn1, vi1_120, w84]
    exact hkk
  · refine ⟨fun h => absurd h (by decide), fun _ => ?_⟩
    refine ⟨fun h => absurd h (by decide), fun _ => ?_⟩
    refine ⟨fun h => absurd h (by decide), fun _ => ?_⟩
    refine ⟨fun h => absurd h (by decide), fun _ => ?_⟩
    refine ⟨fun _ => ?_, fun h => absurd rfl h⟩
    have hkk : K (some (.int (nI (suU (fun k => nv (σ.1 1) (tr k 1)) (nv (σ.1 1) 3))))) σ := hkk
    refine PW_blk okM_count 5 rfl SpM_ok ?_
    simp only [wL0, wLc, true_and, w0, w4, ls00, ls0i, ls0r, ls0l, lsi, lsr, lsl, Option.map_some, w71]
    have key := lp_up (n := nv (σ.1 1) 3) (P := fun i => PW 1 ev mM_count 81 [.ref 0, .int (nI 4), .int (nI (suU (fun k => nv (σ.1 1) (tr k 1)) i)), .int (nI i)] [] σ K) ?_ ?_ 0 (Nat.zero_le _)
    · exact key
    · refine PW_blk okM_count 6 rfl SpM_ok ?_
      simp only [wL0, wLc, true_and, w1, lg0, lgi, lgr, lgl, w2, w35, kM0, rM0, kM1, nM1, w0, w39, tn3, vi3_120, w81, hI.1.1]
      refine b3N (nI_nlt (Nat.le_refl _) (by omega)) ?_
      refine PW_blk okM_count 8 rfl SpM_ok ?_
      simp only [wL0, wLc, true_and, w1, lg0, lgi, lgr, lgl, w84]
      exact hkk
    · intro i hi ih
      have hi10 : i < 10 := by omega
      have ht := (hI.2.2.2.2.2.2.2.2.1 i hi).2.1.1
      refine PW_blk okM_count 6 rfl SpM_ok ?_
      simp only [wL0, wLc, true_and, w1, lg0, lgi, lgr, lgl, w2, w35, kM0, rM0, kM1, nM1, w0, w39, tn3, vi3_120, w81, hI.1.1]
      refine b3Y (nI_lt hi (by omega)) ?_
      refine PW_blk okM_count 7 rfl SpM_ok ?_
      simp only [wL0, wLc, true_and, w1, lg0, lgi, lgr, lgl, w2, w0, w54_3, q40, q41, q42, q43, q44, Option.toList_some, Option.toList_none, List.cons_append, List.nil_append, sp_get, w11, w4, ls00, ls0i, ls0r, ls0l, lsi, lsr, lsl, Option.map_some, w7, w70, gv1 hi10, gt1 hi10, ht.1]
      rw [show (1 : Int32) = nI 1 from rfl, nI_add, nI_add]
      exact ih
  · refine ⟨fun h => absurd h (by decide), fun _ => ?_⟩
    refine ⟨fun h => absurd h (by decide), fun _ => ?_⟩
    refine ⟨fun h => absurd h (by decide), fun _ => ?_⟩
    refine ⟨fun h => absurd h (by decide), fun _ => ?_⟩
    refine ⟨fun h => absurd h (by decide), fun _ => ?_⟩
    refine ⟨fun _ => ?_, fun h => absurd rfl h⟩
    refine PW_blk okM_count 9 rfl SpM_ok ?_
    simp only [wL0, wLc, true_and, w2, lg0, lgi, lgr, lgl, w33, kM0, w84]
    exact hkk
  · refine ⟨fun h => absurd h (by decide), fun _ => ?_⟩
    refine ⟨fun h => absurd h (by decide), fun _ => ?_⟩
    refine ⟨fun h => absurd h (by decide), fun _ => ?_⟩
    refine ⟨fun h => absurd h (by decide), fun _ => ?_⟩
    refine ⟨fun h => absurd h (by decide), fun _ => ?_⟩
    refine ⟨fun h => absurd h (by decide), fun _ => ?_⟩
    refine ⟨fun _ => ?_, fun h => absurd rfl h⟩
    refine PW_blk okM_count 10 rfl SpM_ok ?_
    simp only [wL0, wLc, true_and, w2, lg0, lgi, lgr, lgl, w35, kM0, rM0, kM1, nM1, w0, w39, tn9, vi9_120, w84]
    exact hkk
  · refine ⟨fun h => absurd h (by decide), fun _ => ?_⟩
    refine ⟨fun h => absurd h (by decide), fun _ => ?_⟩
    refine ⟨fun h => absurd h (by decide), fun _ => ?_⟩
    refine ⟨fun h => absurd h (by decide), fun _ => ?_⟩
    refine ⟨fun h => absurd h (by decide), fun _ => ?_⟩
    refine ⟨fun h => absurd h (by decide), fun _ => ?_⟩
    refine ⟨fun h => absurd h (by decide), fun _ => ?_⟩
    refine ⟨fun _ => ?_, fun h => absurd rfl h⟩
    have hkk : K (some (.int (nI (suU (fun k => if (σ.1 1) (110 + k) < 0 then 0 else 1) 10)))) σ := hkk
    refine PW_blk okM_count 11 rfl SpM_ok ?_
    simp only [wL0, wLc, true_and, w0, w4, ls00, ls0i, ls0r, ls0l, lsi, lsr, lsl, Option.map_some, w71]
    have key := lp_up (n := 10) (P := fun i => PW 1 ev mM_count 123 [.ref 0, .int (nI 7), .int (nI (suU (fun k => if (σ.1 1) (110 + k) < 0 then 0 else 1) i)), .int (nI i)] [] σ K) ?_ ?_ 0 (Nat.zero_le _)
    · exact key
    · refine PW_blk okM_count 12 rfl SpM_ok ?_
      simp only [wL0, wLc, true_and, w1, lg0, lgi, lgr, lgl, w0, w81]
      refine b3N (by decide) ?_
      refine PW_blk okM_count 17 rfl SpM_ok ?_
      simp only [wL0, wLc, true_and, w1, lg0, lgi, lgr, lgl, w84]
      exact hkk
    · intro i hi ih
      have e : suU (fun k => if (σ.1 1) (110 + k) < 0 then 0 else 1) (i + 1) = suU (fun k => if (σ.1 1) (110 + k) < 0 then 0 else 1) i + (if (σ.1 1) (110 + i) < 0 then 0 else 1) := rfl
      rw [e] at ih
      refine PW_blk okM_count 12 rfl SpM_ok ?_
      simp only [wL0, wLc, true_and, w1, lg0, lgi, lgr, lgl, w0, w81]
      refine b3Y (nI_lt hi (by decide)) ?_
      refine PW_blk okM_count 13 rfl SpM_ok ?_
      simp only [wL0, wLc, true_and, w1, lg0, lgi, lgr, lgl, w2, w35, kM0, rM0, kM1, nM1, w0, w11, w39, w74]
      rw [show (110 : Int32) = nI 110 from rfl, nI_add, nI_clamp (show 110 + i < 2 ^ 31 by omega)]
      refine ⟨vp_in_nI (by omega) (by decide), ?_⟩
      by_cases c : σ.1 1 (110 + i) < 0
      · rw [if_pos c] at ih
        refine b2Y c ?_
        refine PW_blk okM_count 15 rfl SpM_ok ?_
        simp only [wL0, wLc, true_and, w0, w71]
        refine PW_blk okM_count 16 rfl SpM_ok ?_
        simp only [wL0, wLc, true_and, w11, w4, ls00, ls0i, ls0r, ls0l, lsi, lsr, lsl, Option.map_some, w7, lg0, lgi, lgr, lgl, w70]
        rw [show (1 : Int32) = nI 1 from rfl, nI_add, show (0 : Int32) = nI 0 from rfl, nI_add]
        exact ih
      · rw [if_neg c] at ih
        refine b2N c ?_
        refine PW_blk okM_count 14 rfl SpM_ok ?_
        simp only [wL0, wLc, true_and, w0, w70]
        refine PW_blk okM_count 16 rfl SpM_ok ?_
        simp only [wL0, wLc, true_and, w11, w4, ls00, ls0i, ls0r, ls0l, lsi, lsr, lsl, Option.map_some, w7, lg0, lgi, lgr, lgl, w70]
        rw [show (1 : Int32) = nI 1 from rfl, nI_add, nI_add]
        exact ih
theorem R_status {v : Int32} (h1 : ¬ (v = -1 ∨ rgI v 0 6) → K (some (.int (-1000001))) (noS σ 0)) (h2 : v = -1 → K (some (.int (fsU (σ.1 4) 7))) σ) (h3 : ∀ w, w ≤ 6 → v = nI w → K (some (.int (σ.1 4 w))) σ) : Rn 1 ev mM_status [.ref 0, .int v] σ K := by
  refine Rn_V (by decide) rc6 rfl rfl ?_
  refine PW_blk okM_status 0 rfl SpM_ok ?_
  simp only [wL0, wLc, true_and, w1, lg0, lgi, lgr, lgl, w0, w55_3, q40, q41, q42, q43, q44, Option.toList_some, Option.toList_none, List.cons_append, List.nil_append, sp_in1, w73]
  by_cases hr : v = -1 ∨ rgI v 0 6
  rotate_left
  · refine dN (in1m' (m := 6) (by decide) hr) ?_
    refine PW_blk okM_status 1 rfl SpM_ok ?_
    simp only [wL0, wLc, true_and, w2, lg0, lgi, lgr, lgl, w0, w54_2, q40, q41, q42, q43, q44, Option.toList_some, Option.toList_none, List.cons_append, List.nil_append, sp_no, v7_0, v7_1, v7_2, v7_3, v7_4, v7_5, v7_6, w84]
    exact h1 hr
  refine dY (in1m (m := 6) (by decide) hr) ?_
  refine PW_blk okM_status 2 rfl SpM_ok ?_
  simp only [wL0, wLc, true_and, w0, w4, ls00, ls0i, ls0r, ls0l, lsi, lsr, lsl, Option.map_some, w71]
  rcases hr with e | ⟨w, -, hw, e⟩
  · subst e
    have key := lp_up (n := 7) (P := fun i => PW 1 ev mM_status 20 [.ref 0, .int (-1), .int (fsU (σ.1 4) i), .int (nI i)] [] σ K) ?_ ?_ 0 (by decide)
    · exact key
    · refine PW_blk okM_status 3 rfl SpM_ok ?_
      simp only [wL0, wLc, true_and, w1, lg0, lgi, lgr, lgl, w0, w81]
      refine b3N (by decide) ?_
      refine PW_blk okM_status 9 rfl SpM_ok ?_
      simp only [wL0, wLc, true_and, w1, lg0, lgi, lgr, lgl, w84]
      exact h2 rfl
    · intro i hi ih
      refine PW_blk okM_status 3 rfl SpM_ok ?_
      simp only [wL0, wLc, true_and, w1, lg0, lgi, lgr, lgl, w0, w81]
      refine b3Y (nI_lt hi (by decide)) ?_
      refine PW_blk okM_status 4 rfl SpM_ok ?_
      simp only [wL0, wLc, true_and, w1, lg0, lgi, lgr, lgl, w0, w78]
      refine b2Y trivial ?_
      refine PW_blk okM_status 6 rfl SpM_ok ?_
      simp only [wL0, wLc, true_and, w2, lg0, lgi, lgr, lgl, w35, kM0, rM4, kM4, nM4, w1, w39, w70, eq_true (vp_in_nI (show i < 7 by omega) (by decide)), nI_clamp (show i < 2 ^ 31 by omega)]
      refine PW_blk okM_status 8 rfl SpM_ok ?_
      simp only [wL0, wLc, true_and, w11, w4, ls00, ls0i, ls0r, ls0l, lsi, lsr, lsl, Option.map_some, w7, lg0, lgi, lgr, lgl, w70]
      rw [show (1 : Int32) = nI 1 from rfl, nI_add]
      exact ih
  · subst e
    have key := lp_up (n := 7) (P := fun i => PW 1 ev mM_status 20 [.ref 0, .int (nI w), .int (if w < i then σ.1 4 w else 0), .int (nI i)] [] σ K) ?_ ?_ 0 (by decide)
    · rw [if_neg (Nat.not_lt_zero w)] at key
      exact key
    · refine PW_blk okM_status 3 rfl SpM_ok ?_
      simp only [wL0, wLc, true_and, w1, lg0, lgi, lgr, lgl, w0, w81]
      refine b3N (by decide) ?_
      refine PW_blk okM_status 9 rfl SpM_ok ?_
      simp only [wL0, wLc, true_and, w1, lg0, lgi, lgr, lgl, w84]
      rw [if_pos (by omega)]
      exact h3 w hw rfl
    · intro i hi ih
      refine PW_blk okM_status 3 rfl SpM_ok ?_
      simp only [wL0, wLc, true_and, w1, lg0, lgi, lgr, lgl, w0, w81]
      refine b3Y (nI_lt hi (by decide)) ?_
      refine PW_blk okM_status 4 rfl SpM_ok ?_
      simp only [wL0, wLc, true_and, w1, lg0, lgi, lgr, lgl, w0, w78]
      refine b2N (m1_ne (by omega)) ?_
      refine PW_blk okM_status 5 rfl SpM_ok ?_
      simp only [wL0, wLc, true_and, w1, lg0, lgi, lgr, lgl, w79]
      rw [nI_eq_iff (by omega) (by omega)]
      by_cases c : w = i
      · subst c
        rw [if_pos (by omega)] at ih
        refine b3Y rfl ?_
        refine PW_blk okM_status 6 rfl SpM_ok ?_
        simp only [wL0, wLc, true_and, w2, lg0, lgi, lgr, lgl, w35, kM0, rM4, kM4, nM4, w1, w39, w70, eq_true (vp_in_nI (show w < 7 by omega) (by decide)), nI_clamp (show w < 2 ^ 31 by omega)]
        refine PW_blk okM_status 8 rfl SpM_ok ?_
        simp only [wL0, wLc, true_and, w11, w4, ls00, ls0i, ls0r, ls0l, lsi, lsr, lsl, Option.map_some, w7, lg0, lgi, lgr, lgl, w70]
        rw [if_neg (Nat.lt_irrefl w), show (1 : Int32) = nI 1 from rfl, nI_add, Int32.zero_add]
        exact ih
      · refine b3N c ?_
        refine PW_blk okM_status 7 rfl SpM_ok ?_
        simp only [wL0, wLc, true_and, w0, w71]
        refine PW_blk okM_status 8 rfl SpM_ok ?_
        simp only [wL0, wLc, true_and, w11, w4, ls00, ls0i, ls0r, ls0l, lsi, lsr, lsl, Option.map_some, w7, lg0, lgi, lgr, lgl, w70]
        rw [show (1 : Int32) = nI 1 from rfl, nI_add, Int32.add_zero]
        by_cases c2 : w < i
        · rw [if_pos c2]
          rw [if_pos (by omega)] at ih
          exact ih
        · rw [if_neg c2]
          rw [if_neg (by omega)] at ih
          exact ih
end MQ
