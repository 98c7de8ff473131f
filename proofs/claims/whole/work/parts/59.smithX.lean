/-! odds; the smith -/
theorem mod_half {a b : Nat} (hb : 0 < b) (h : b ≤ a) : b * (a % b) * 2 ≤ b * a := by
  have h1 := Nat.mod_lt a hb
  have h2 := Nat.div_add_mod a b
  have h3 : b * 1 ≤ b * (a / b) := Nat.mul_le_mul_left _ (Nat.div_pos h hb)
  have h4 : a % b * 2 ≤ a := by omega
  rw [Nat.mul_assoc]
  exact Nat.mul_le_mul_left _ h4
/-- what smiths ask of S leaves these alone -/
def upR (S : Nat → Int32) (w : Nat) (v : Int32) : Nat → Int32 := upd S (4 + w) v
section SX
variable {ev : EV} {σ : St2} {K : PO} {S : Nat → Int32}
theorem X_odds {x : Nat} (hX : XC σ 1 S) (hI : Inv S) (hx : x < 2 ^ nv S 3) (hk : K (some (.long (lN (odN S x)))) σ) : Rn 0 ev mW_odds [.ref 43, .int (nI x)] σ K := by
  have hc := CH1
  have hn10 := hI.1.2
  have hp2 := p2le _ hn10
  have hend : ∀ n, nv S 3 ≤ n → odU S x n = odU S x (nv S 3) := by
    intro n
    induction n with
    | zero => intro h; rw [show nv S 3 = 0 by omega]
    | succ n ih =>
      intro h
      by_cases e : nv S 3 = n + 1
      · rw [e]
      · rw [← ih (by omega)]
        show (if x.testBit n then _ else _) = _
        rw [if_neg]
        rw [Nat.testBit_lt_two_pow (Nat.lt_of_lt_of_le hx (Nat.pow_le_pow_right (by decide) (by omega)))]
        decide
  refine Rn_V (by decide) rc4 rfl rfl ?_
  refine PW_blk okW_odds 0 rfl SpX_ok ?_
  simp only [wL0, wLc, true_and, w53, w6, ls00, ls0i, ls0r, ls0l, lsi, lsr, lsl, Option.map_some, w0, w4, w71]
  have key := lp_up (n := 10) (P := fun k => PW 0 ev mW_odds 7 [.ref 43, .int (nI x), .long (lN (odU S x k)), .int (nI k)] [] σ K) ?_ ?_ 0 (by decide)
  · exact key
  · refine PW_blk okW_odds 1 rfl SpX_ok ?_
    simp only [wL0, wLc, true_and, w1, lg0, lgi, lgr, lgl, w0, w81]
    refine b3N (by decide) ?_
    refine PW_blk okW_odds 5 rfl SpX_ok ?_
    simp only [wL0, wLc, true_and, w3, lg0, lgi, lgr, lgl, w86]
    rw [hend 10 hn10]
    exact hk
  · intro k hk10 ih
    have hol := odU_le S x k
    have e2 : odU S x (k + 1) = if x.testBit k then odU S x k / 10 * (10 - nv S (tr k 7)) else odU S x k := rfl
    rw [e2] at ih
    refine PW_blk okW_odds 1 rfl SpX_ok ?_
    simp only [wL0, wLc, true_and, w1, lg0, lgi, lgr, lgl, w0, w81]
    refine b3Y (nI_lt hk10 (by decide)) ?_
    refine PW_blk okW_odds 2 rfl SpX_ok ?_
    simp only [wL0, wLc, true_and, w1, lg0, lgi, lgr, lgl, w20, w0, w16, w72]
    rw [bit1 (by omega) (by omega)]
    by_cases hb : x.testBit k = true
    · rw [if_pos hb] at ih
      refine bY1 hb ?_
      have hkn : k < nv S 3 := by
        refine Classical.byContradiction (fun z => ?_)
        rw [Nat.testBit_lt_two_pow (Nat.lt_of_lt_of_le hx (Nat.pow_le_pow_right (by decide) (by omega)))] at hb
        cases hb
      have hw7 := (hI.2.2.2.2.2.2.2.2.1 k hkn).2.2.2.2.2.2.2.1
      have hle7 := hw7.2
      have e10 : (10 : Int32) - nI (nv S (tr k 7)) = nI (10 - nv S (tr k 7)) := by
        rw [show (10 : Int32) = nI 10 from rfl, pk_sub (by omega)]
      refine PW_blk okW_odds 3 rfl SpX_ok ?_
      simp only [wL0, wLc, true_and, w3, lg0, lgi, lgr, lgl, w53, w25, w0, w2, w35, kX43, rX43_0, w1, w54_3, q40, q41, q42, q43, q44, Option.toList_some, Option.toList_none, List.cons_append, List.nil_append, w12, w28, w24, w6, ls00, ls0i, ls0r, ls0l, lsi, lsr, lsl, Option.map_some, w71]
      refine ⟨by decide, ?_⟩
      refine X_trait (w := 7) hc hX hI hkn (by decide) ?_
      simp only [wL0, wLc, true_and, w3, lg0, lgi, lgr, lgl, w53, w25, w0, w2, w35, kX43, rX43_0, w1, w54_3, q40, q41, q42, q43, q44, Option.toList_some, Option.toList_none, List.cons_append, List.nil_append, w12, w28, w24, w6, ls00, ls0i, ls0r, ls0l, lsi, lsr, lsl, Option.map_some, w71, hw7.1, e10]
      refine PW_blk okW_odds 4 rfl SpX_ok ?_
      simp only [wL0, wLc, true_and, w7, lg0, lgi, lgr, lgl, ls00, ls0i, ls0r, ls0l, lsi, lsr, lsl, Option.map_some, w70]
      rw [nI_l (by omega), lN_div (by omega) (by decide), lN_mul, show (1 : Int32) = nI 1 from rfl, nI_add]
      exact ih
    · rw [if_neg hb] at ih
      refine bN1 hb ?_
      refine PW_blk okW_odds 4 rfl SpX_ok ?_
      simp only [wL0, wLc, true_and, w7, lg0, lgi, lgr, lgl, ls00, ls0i, ls0r, ls0l, lsi, lsr, lsl, Option.map_some, w70]
      rw [show (1 : Int32) = nI 1 from rfl, nI_add]
      exact ih
theorem X_surestTenths (hX : XC σ 1 S) (hI : Inv S) (hk : ∀ σ', Wf σ σ' → K (some (.long (lN (sureN S)))) σ') : Rn 0 ev mW_surestTenths [.ref 43] σ K := by
  have hc := CH1
  have hn10 := hI.1.2
  have hp2 := p2le _ hn10
  refine Rn_V (by decide) rc4 rfl rfl ?_
  refine PW_blk okW_surestTenths 0 rfl SpX_ok ?_
  simp only [wL0, wLc, true_and, w2, lg0, lgi, lgr, lgl, w35, kX43, rX43_0, w33, CH_k hc, w54_2, q40, q41, q42, q43, q44, Option.toList_some, Option.toList_none, List.cons_append, List.nil_append, w53, w6, ls00, ls0i, ls0r, ls0l, lsi, lsr, lsl, Option.map_some, w0, w4, w71, x4 hX hI]
  refine X_explore hX hI hI.2.1.2 (fun σ' hW _ _ hT => ?_)
  have hX' := Wf_X hW hX
  simp only [wL0, wLc, true_and, w2, lg0, lgi, lgr, lgl, w35, kX43, rX43_0, w33, CH_k hc, w54_2, q40, q41, q42, q43, q44, Option.toList_some, Option.toList_none, List.cons_append, List.nil_append, w53, w6, ls00, ls0i, ls0r, ls0l, lsi, lsr, lsl, Option.map_some, w0, w4, w71]
  have key := lp_up (n := 1024) (P := fun t => PW 0 ev mW_surestTenths 15 [.ref 43, .long (lN (bsU S (nv S 2) t)), .int (nI t)] [] σ' K) ?_ ?_ 0 (by decide)
  · exact key
  · refine PW_blk okW_surestTenths 1 rfl SpX_ok ?_
    simp only [wL0, wLc, true_and, w1, lg0, lgi, lgr, lgl, w0, w81]
    refine b3N (by decide) ?_
    refine PW_blk okW_surestTenths 6 rfl SpX_ok ?_
    simp only [wL0, wLc, true_and, w3, lg0, lgi, lgr, lgl, w86]
    exact hk σ' hW
  · intro t ht ih
    have hsl := bsU_le S (nv S 2) t
    have hol : odN S (dif t (nv S 2)) ≤ 10000000000 := odU_le _ _ _
    have hdl := dif_le t (nv S 2)
    have e : bsU S (nv S 2) (t + 1) = cif (cw S 0 (nv S 2) t ≠ 0 ∧ outP S t ∧ bsU S (nv S 2) t < odN S (dif t (nv S 2))) (odN S (dif t (nv S 2))) (bsU S (nv S 2) t) := rfl
    rw [e] at ih
    obtain ⟨t1, t2⟩ := hT t ht
    have next : ¬ (rch S (nv S 2) t ∧ outP S t) → PW 0 ev mW_surestTenths 63 [.ref 43, .long (lN (bsU S (nv S 2) t)), .int (nI t)] [] σ' K := by
      intro z
      rw [cif_n (fun y => z ⟨y.1, y.2.1⟩)] at ih
      refine PW_blk okW_surestTenths 5 rfl SpX_ok ?_
      simp only [wL0, wLc, true_and, w7, lg0, lgi, lgr, lgl, ls00, ls0i, ls0r, ls0l, lsi, lsr, lsl, Option.map_some, w70]
      rw [show (1 : Int32) = nI 1 from rfl, nI_add]
      exact ih
    refine PW_blk okW_surestTenths 1 rfl SpX_ok ?_
    simp only [wL0, wLc, true_and, w1, lg0, lgi, lgr, lgl, w0, w81]
    refine b3Y (nI_lt ht (by decide)) ?_
    refine PW_blk okW_surestTenths 2 rfl SpX_ok ?_
    simp only [wL0, wLc, true_and, w2, lg0, lgi, lgr, lgl, w35, kX43, rX43_1, kX44, nX44, w1, w39, w0, w78, v1024 ht, c1024 ht]
    by_cases c : rch S (nv S 2) t
    rotate_left
    · exact b2Y (t2 c) (next (fun z => c z.1))
    have htl := rch_lt hn10 hI.2.1.2 c
    refine b2N (by rw [(t1 c).1]; exact m1_ne (by have := mayN_lt S t; omega)) ?_
    refine PW_blk okW_surestTenths 3 rfl SpX_ok ?_
    simp only [wL0, wLc, true_and, w2, lg0, lgi, lgr, lgl, w35, kX43, rX43_0, w1, w54_2, q40, q41, q42, q43, q44, Option.toList_some, Option.toList_none, List.cons_append, List.nil_append, xp_C_isOutAt, CH_e hc, w72, xr2 hX']
    by_cases c2 : outP S t
    rotate_left
    · exact bN (if_neg c2) (next (fun z => c2 z.2))
    refine bY (if_pos c2) ?_
    refine PW_blk okW_surestTenths 4 rfl SpX_ok ?_
    simp only [wL0, wLc, true_and, w3, lg0, lgi, lgr, lgl, w2, w1, w35, kX43, rX43_0, w33, CH_k hc, w0, w18, w16, w54_2, q40, q41, q42, q43, q44, Option.toList_some, Option.toList_none, List.cons_append, List.nil_append, w59, w6, ls00, ls0i, ls0r, ls0l, lsi, lsr, lsl, Option.map_some, w71, x4 hX' hI, dif_I]
    refine X_odds hX' hI (by omega) ?_
    simp only [wL0, wLc, true_and, w3, lg0, lgi, lgr, lgl, w2, w1, w35, kX43, rX43_0, w33, CH_k hc, w0, w18, w16, w54_2, q40, q41, q42, q43, q44, Option.toList_some, Option.toList_none, List.cons_append, List.nil_append, w59, w6, ls00, ls0i, ls0r, ls0l, lsi, lsr, lsl, Option.map_some, w71]
    have em : (if lN (odN S (dif t (nv S 2))) < lN (bsU S (nv S 2) t) then lN (bsU S (nv S 2) t) else lN (odN S (dif t (nv S 2)))) = lN (cif (cw S 0 (nv S 2) t ≠ 0 ∧ outP S t ∧ bsU S (nv S 2) t < odN S (dif t (nv S 2))) (odN S (dif t (nv S 2))) (bsU S (nv S 2) t)) := by
      by_cases z : bsU S (nv S 2) t < odN S (dif t (nv S 2))
      · rw [cif_y ⟨c, c2, z⟩, if_neg (fun y => by have := (lN_l63 (by omega) (by omega)).mp y; omega)]
      · rw [cif_n (fun y => z y.2.2)]
        by_cases z2 : odN S (dif t (nv S 2)) < bsU S (nv S 2) t
        · rw [if_pos ((lN_l63 (by omega) (by omega)).mpr z2)]
        · rw [if_neg (fun y => z2 ((lN_l63 (by omega) (by omega)).mp y))]
          congr 1
          omega
    rw [em]
    refine PW_blk okW_surestTenths 5 rfl SpX_ok ?_
    simp only [wL0, wLc, true_and, w7, lg0, lgi, lgr, lgl, ls00, ls0i, ls0r, ls0l, lsi, lsr, lsl, Option.map_some, w70]
    rw [show (1 : Int32) = nI 1 from rfl, nI_add]
    exact ih
theorem X_commonDivisor {a : Nat} (ha : a ≤ 10000000000) (ha0 : a ≠ 0) (hk : K (some (.long (lN (Nat.gcd a 10000000000)))) σ) : Rn 0 ev mX_commonDivisor [.long (lN a), .long (lN 10000000000)] σ K := by
  refine Rn_S (by decide) rfl rfl rfl ?_
  refine PW_blk okX_commonDivisor 0 rfl SpX_ok ?_
  simp only [wL0, wLc, true_and, w3, lg0, lgi, lgr, lgl, w6, ls00, ls0i, ls0r, ls0l, lsi, lsr, lsl, Option.map_some, w0, w4, w71]
  have loop : ∀ f i x y, i + f = 200 → 1 ≤ i → y ≤ x → x * y * 2 ^ (i - 1) ≤ 100000000000000000000 → x ≤ 10000000000 → Nat.gcd x y = Nat.gcd a 10000000000 → ∀ ls : List Value, ls.take 7 = [.long (lN a), .long (lN 10000000000), .long (lN x), .long (lN y), .int (nI i)] → PW 0 ev mX_commonDivisor 9 [.long (lN a), .long (lN 10000000000), .long (lN x), .long (lN y), .int (nI i)] [] σ K := by
    intro f
    induction f with
    | zero =>
      intro i x y hi h1 hxy hb hx hg ls hls
      have e : i = 200 := by omega
      subst e
      have hz : y = 0 := by
        rcases Nat.eq_zero_or_pos y with z | z
        · exact z
        · exfalso
          have h2 : 1 ≤ x * y := Nat.mul_pos (by omega) z
          have h3 : 1 * 2 ^ (200 - 1) ≤ x * y * 2 ^ (200 - 1) := Nat.mul_le_mul_right _ h2
          have h4 : ¬ 1 * 2 ^ (200 - 1) ≤ 100000000000000000000 := by decide
          exact h4 (Nat.le_trans h3 hb)
      subst hz
      rw [Nat.gcd_zero_right] at hg
      refine PW_blk okX_commonDivisor 1 rfl SpX_ok ?_
      simp only [wL0, wLc, true_and, w1, lg0, lgi, lgr, lgl, w0, w81]
      refine b3N (by decide) ?_
      refine PW_blk okX_commonDivisor 4 rfl SpX_ok ?_
      simp only [wL0, wLc, true_and, w3, lg0, lgi, lgr, lgl, w86]
      rw [hg]
      exact hk
    | succ f ih =>
      intro i x y hi h1 hxy hb hx hg ls hls
      refine PW_blk okX_commonDivisor 1 rfl SpX_ok ?_
      simp only [wL0, wLc, true_and, w1, lg0, lgi, lgr, lgl, w0, w81]
      refine b3Y (nI_lt (show i < 200 by omega) (by decide)) ?_
      refine PW_blk okX_commonDivisor 2 rfl SpX_ok ?_
      simp only [wL0, wLc, true_and, w3, lg0, lgi, lgr, lgl, w53, w27, w72]
      rw [cmp_z (by omega) (by decide)]
      by_cases z : y = 0
      · subst z
        rw [Nat.gcd_zero_right] at hg
        refine b2Y rfl ?_
        refine PW_blk okX_commonDivisor 4 rfl SpX_ok ?_
        simp only [wL0, wLc, true_and, w3, lg0, lgi, lgr, lgl, w86]
        rw [hg]
        exact hk
      refine b2N z ?_
      have hlt := Nat.mod_lt x (Nat.pos_of_ne_zero z)
      refine PW_blk okX_commonDivisor 3 rfl SpX_ok ?_
      simp only [wL0, wLc, true_and, w3, lg0, lgi, lgr, lgl, w26, w6, ls00, ls0i, ls0r, ls0l, lsi, lsr, lsl, Option.map_some, w7, w70]
      rw [lN_rem (by omega) (by omega)]
      refine ⟨fun q => z ((lN_e63 (by omega) (by decide)).mp (show lN y = lN 0 from q)), ?_⟩
      refine PW_loc 5 ?_
      rw [show (1 : Int32) = nI 1 from rfl, nI_add]
      refine ih (i + 1) y (x % y) (by omega) (by omega) (by omega) ?_ (by omega) ?_ [.long (lN a), .long (lN 10000000000), .long (lN y), .long (lN (x % y)), .int (nI (i + 1))] rfl
      · have hm := mod_half (Nat.pos_of_ne_zero z) hxy
        rw [show i + 1 - 1 = (i - 1) + 1 by omega, Nat.pow_succ, Nat.mul_comm (2 ^ (i - 1)) 2, ← Nat.mul_assoc]
        refine Nat.le_trans (Nat.mul_le_mul_right _ hm) ?_
        rw [Nat.mul_comm y x]
        exact hb
      · rw [← hg, Nat.gcd_comm x y, Nat.gcd_rec y x, Nat.gcd_comm]
  refine PW_blk okX_commonDivisor 1 rfl SpX_ok ?_
  simp only [wL0, wLc, true_and, w1, lg0, lgi, lgr, lgl, w0, w81]
  refine b3Y (by decide) ?_
  refine PW_blk okX_commonDivisor 2 rfl SpX_ok ?_
  simp only [wL0, wLc, true_and, w3, lg0, lgi, lgr, lgl, w53, w27, w72]
  rw [cmp_z (by decide) (by decide)]
  refine b2N (by decide) ?_
  have hlt := Nat.mod_lt a (show 0 < 10000000000 by decide)
  refine PW_blk okX_commonDivisor 3 rfl SpX_ok ?_
  simp only [wL0, wLc, true_and, w3, lg0, lgi, lgr, lgl, w26, w6, ls00, ls0i, ls0r, ls0l, lsi, lsr, lsl, Option.map_some, w7, w70]
  rw [lN_rem (by omega) (by decide)]
  refine ⟨by decide, ?_⟩
  refine PW_loc 5 ?_
  have hle : a % 10000000000 ≤ 10000000000 := Nat.le_of_lt hlt
  refine loop 199 1 10000000000 (a % 10000000000) rfl (by decide) hle ?_ (by decide) ?_ [.long (lN a), .long (lN 10000000000), .long (lN 10000000000), .long (lN (a % 10000000000)), .int (nI 1)] rfl
  · rw [show 2 ^ (1 - 1) = 1 from rfl, Nat.mul_one]
    exact Nat.le_trans (Nat.mul_le_mul_left _ hle) (by decide)
  · rw [Nat.gcd_comm a 10000000000, Nat.gcd_rec 10000000000 a, Nat.gcd_comm]
theorem X_surest {what : Int32} (hX : XC σ 1 S) (hI : Inv S) (h0 : ¬ rgI what 0 1 → K (some (.long (Int32.toInt64 (-1000001)))) (noX σ 0)) (h1 : rgI what 0 1 → sureN S = 0 → ∀ σ', Wf σ σ' → K (some (.long (Int32.toInt64 (-1000004)))) (noX σ' 3)) (h2 : what = nI 0 → sureN S ≠ 0 → ∀ σ', Wf σ σ' → K (some (.long (lN (sureN S / Nat.gcd (sureN S) 10000000000)))) σ') (h3 : what = nI 1 → sureN S ≠ 0 → ∀ σ', Wf σ σ' → K (some (.long (lN (10000000000 / Nat.gcd (sureN S) 10000000000)))) σ') : Rn 0 ev mX_surest [.ref 0, .int what] σ K := by
  have hsl : sureN S ≤ 10000000000 := bsU_le _ _ _
  refine Rn_V (by decide) rc5 rfl rfl ?_
  refine PW_blk okX_surest 0 rfl SpX_ok ?_
  simp only [wL0, wLc, true_and, w1, lg0, lgi, lgr, lgl, w74]
  have no : ¬ rgI what 0 1 → PW 0 ev mX_surest 9 [.ref 0, .int what] [] σ K := by
    intro z
    refine PW_blk okX_surest 2 rfl SpX_ok ?_
    simp only [wL0, wLc, true_and, w2, lg0, lgi, lgr, lgl, w0, w54_2, q40, q41, q42, q43, q44, Option.toList_some, Option.toList_none, List.cons_append, List.nil_append, xp_X_tell, tl0, tl1, tl2, tl3, tl4, tl5, tl6, tq0, tq1, tq2, tq3, tq4, tq5, tq6, w28, w86]
    exact h0 z
  by_cases c1 : what < 0
  · refine b2Y c1 (no (fun ⟨n, a, b, e⟩ => ?_))
    rw [e] at c1
    exact lt0 (by omega) c1
  refine b2N c1 ?_
  obtain ⟨w, hw, rfl⟩ := ge0 c1
  refine PW_blk okX_surest 1 rfl SpX_ok ?_
  simp only [wL0, wLc, true_and, w1, lg0, lgi, lgr, lgl, w0, w83]
  rw [show (1 : Int32) = nI 1 from rfl, nI_lt_iff (by decide) (by omega)]
  by_cases c2 : 1 < w
  · refine b3Y c2 (no (fun ⟨n, a, b, e⟩ => ?_))
    rw [nI_eq_iff (by omega) (by omega)] at e
    omega
  refine b3N c2 ?_
  refine PW_blk okX_surest 3 rfl SpX_ok ?_
  simp only [wL0, wLc, true_and, w2, lg0, lgi, lgr, lgl, w35, kX0, rX0_3, w54_1, q40, q41, q42, q43, q44, Option.toList_some, Option.toList_none, List.cons_append, List.nil_append, w6, ls00, ls0i, ls0r, ls0l, lsi, lsr, lsl, Option.map_some, w3, w53, w27, w73]
  refine X_surestTenths hX hI (fun σ' hW => ?_)
  simp only [wL0, wLc, true_and, w2, lg0, lgi, lgr, lgl, w35, kX0, rX0_3, w54_1, q40, q41, q42, q43, q44, Option.toList_some, Option.toList_none, List.cons_append, List.nil_append, w6, ls00, ls0i, ls0r, ls0l, lsi, lsr, lsl, Option.map_some, w3, w53, w27, w73]
  rw [cmp_z (by omega) (by decide)]
  by_cases z : sureN S = 0
  · refine b3Y z ?_
    refine PW_blk okX_surest 4 rfl SpX_ok ?_
    simp only [wL0, wLc, true_and, w2, lg0, lgi, lgr, lgl, w0, w54_2, q40, q41, q42, q43, q44, Option.toList_some, Option.toList_none, List.cons_append, List.nil_append, xp_X_tell, tl0, tl1, tl2, tl3, tl4, tl5, tl6, tq0, tq1, tq2, tq3, tq4, tq5, tq6, w28, w86]
    exact h1 ⟨w, Nat.zero_le _, by omega, rfl⟩ z σ' hW
  refine b3N z ?_
  have hg0 : 0 < Nat.gcd (sureN S) 10000000000 := Nat.gcd_pos_of_pos_right _ (by decide)
  have hgl : Nat.gcd (sureN S) 10000000000 ≤ 10000000000 := Nat.gcd_le_right _ (by decide)
  refine PW_blk okX_surest 5 rfl SpX_ok ?_
  simp only [wL0, wLc, true_and, w3, lg0, lgi, lgr, lgl, w53, w55_2, q40, q41, q42, q43, q44, Option.toList_some, Option.toList_none, List.cons_append, List.nil_append, w6, ls00, ls0i, ls0r, ls0l, lsi, lsr, lsl, Option.map_some, w27, w73]
  refine X_commonDivisor hsl z ?_
  simp only [wL0, wLc, true_and, w3, lg0, lgi, lgr, lgl, w53, w55_2, q40, q41, q42, q43, q44, Option.toList_some, Option.toList_none, List.cons_append, List.nil_append, w6, ls00, ls0i, ls0r, ls0l, lsi, lsr, lsl, Option.map_some, w27, w73]
  rw [cmp_z (by omega) (by decide)]
  refine b3N (by omega) ?_
  refine PW_blk okX_surest 7 rfl SpX_ok ?_
  simp only [wL0, wLc, true_and, w1, lg0, lgi, lgr, lgl, w73]
  rcases (show w = 0 ∨ w = 1 by omega) with rfl | rfl
  · refine b3Y rfl ?_
    refine PW_blk okX_surest 8 rfl SpX_ok ?_
    simp only [wL0, wLc, true_and, w3, lg0, lgi, lgr, lgl, w25, w70]
    refine ⟨fun q => ?_, ?_⟩
    · have := (lN_e63 (show Nat.gcd (sureN S) 10000000000 < 9223372036854775808 by omega) (by decide)).mp (show lN _ = lN 0 from q); omega
    refine PW_blk okX_surest 10 rfl SpX_ok ?_
    simp only [wL0, w86]
    rw [lN_div (by omega) (by omega)]
    exact h2 rfl z σ' hW
  · refine b3N (by decide) ?_
    refine PW_blk okX_surest 9 rfl SpX_ok ?_
    simp only [wL0, wLc, true_and, w53, w3, lg0, lgi, lgr, lgl, w25, w71]
    refine ⟨fun q => ?_, ?_⟩
    · have := (lN_e63 (show Nat.gcd (sureN S) 10000000000 < 9223372036854775808 by omega) (by decide)).mp (show lN _ = lN 0 from q); omega
    refine PW_blk okX_surest 10 rfl SpX_ok ?_
    simp only [wL0, w86]
    rw [lN_div (by decide) (by omega)]
    exact h3 rfl z σ' hW
end SX
