/-! ranges, loops, what a store holds behind a row was laid -/
theorem lp_up {P : Nat → Prop} {n : Nat} (h0 : P n) (hs : ∀ k, k < n → P (k + 1) → P k) : ∀ k, k ≤ n → P k := by
  have key : ∀ m k, k + m = n → P k := by
    intro m
    induction m with
    | zero => intro k hk; rw [Nat.add_zero] at hk; subst hk; exact h0
    | succ m ih => intro k hk; exact hs k (by omega) (ih (k + 1) (by omega))
  intro k hk
  exact key (n - k) k (by omega)
theorem lp_dn {P : Nat → Prop} {a : Nat} (h0 : P a) (hs : ∀ k, a ≤ k → P k → P (k + 1)) : ∀ k, a ≤ k → P k := by
  have key : ∀ m, P (a + m) := by
    intro m
    induction m with
    | zero => exact h0
    | succ m ih => exact hs (a + m) (Nat.le_add_right _ _) ih
  intro k hk
  have := key (k - a)
  rw [show a + (k - a) = k by omega] at this
  exact this
def rgI (v : Int32) (a m : Nat) : Prop := ∃ n, a ≤ n ∧ n ≤ m ∧ v = nI n
def hasL (S : Nat → Int32) (v : Int32) : Prop := ∃ k, k < nv S 3 ∧ v = nI k
theorem rgI_toInt {v : Int32} {a m : Nat} (h0 : (a : Int) ≤ v.toInt) (h1 : v.toInt ≤ m) : rgI v a m := by
  have hlt : v.toInt < 2147483648 := by have := Int32.toInt_lt v; omega
  refine ⟨v.toInt.toNat, by omega, by omega, ?_⟩
  rw [fa_eq, nI_toInt (by omega)]
  omega
theorem in1Y {v : Int32} {a m : Nat} (hm : m < 2147483648) (h : rgI v a m) : in1F v (nI a) (nI m) = 1 := by
  obtain ⟨n, h1, h2, e⟩ := h
  subst e
  unfold in1F
  rw [if_neg (nI_nlt h1 (by omega)), if_neg (nI_nlt h2 hm)]
theorem in1N {v : Int32} {a m : Nat} (hm : m < 2147483648) (ha : a < 2147483648) (h : ¬ rgI v a m) : in1F v (nI a) (nI m) = 0 := by
  unfold in1F
  by_cases h1 : v < nI a
  · rw [if_pos h1]
  · rw [if_neg h1]
    by_cases h2 : nI m < v
    · rw [if_pos h2]
    · exfalso
      rw [fa_lt, nI_toInt ha] at h1
      rw [fa_lt, nI_toInt hm] at h2
      exact h (rgI_toInt (by omega) (by omega))
theorem in1LY {S : Nat → Int32} {v : Int32} (hr : rg S 3 10) (h : hasL S v) : in1F v 0 (S 3 - 1) = 1 := by
  obtain ⟨k, hk, e⟩ := h
  have h10 := hr.2
  rw [hr.1, show (1 : Int32) = nI 1 from rfl, pk_sub (by omega)]
  exact in1Y (a := 0) (by omega) ⟨k, by omega, by omega, e⟩
theorem in1LN {S : Nat → Int32} {v : Int32} (hr : rg S 3 10) (h : ¬ hasL S v) : in1F v 0 (S 3 - 1) = 0 := by
  have h10 := hr.2
  rcases Nat.eq_zero_or_pos (nv S 3) with z | z
  · rw [hr.1, z]
    unfold in1F
    by_cases h1 : v < 0
    · rw [if_pos h1]
    · rw [if_neg h1, if_pos]
      rw [fa_lt] at h1 ⊢
      have e0 : (0 : Int32).toInt = 0 := by decide
      have e1 : (nI 0 - 1).toInt = -1 := by decide
      omega
  · rw [hr.1, show (1 : Int32) = nI 1 from rfl, pk_sub (by omega)]
    refine in1N (a := 0) (by omega) (by decide) (fun hh => ?_)
    obtain ⟨n, h1, h2, e⟩ := hh
    exact h ⟨n, by omega, e⟩
theorem bN {c : Int32} {p q : Prop} (hc : c = 0) (hp : p) : (c = 0 → p) ∧ (¬ c = 0 → q) := ⟨fun _ => hp, fun h => absurd hc h⟩
theorem bY {c : Int32} {p q : Prop} (hc : c = 1) (hq : q) : (c = 0 → p) ∧ (¬ c = 0 → q) := ⟨fun h => absurd (hc.symm.trans h) (by decide), fun _ => hq⟩
theorem dN {c : Int32} {p q : Prop} (hc : c = 0) (hq : q) : (¬ c = 0 → p) ∧ (c = 0 → q) := ⟨fun h => absurd hc h, fun _ => hq⟩
theorem dY {c : Int32} {p q : Prop} (hc : c = 1) (hp : p) : (¬ c = 0 → p) ∧ (c = 0 → q) := ⟨fun _ => hp, fun h => absurd (hc.symm.trans h) (by decide)⟩
theorem b3N {c : Prop} {p q : Prop} (hc : ¬ c) (hp : p) : (¬ c → p) ∧ (c → q) := ⟨fun _ => hp, fun h => absurd h hc⟩
theorem b3Y {c : Prop} {p q : Prop} (hc : c) (hq : q) : (¬ c → p) ∧ (c → q) := ⟨fun h => absurd hc h, fun _ => hq⟩
theorem b2N {c : Prop} {p q : Prop} (hc : ¬ c) (hq : q) : (c → p) ∧ (¬ c → q) := ⟨fun h => absurd h hc, fun _ => hq⟩
theorem b2Y {c : Prop} {p q : Prop} (hc : c) (hp : p) : (c → p) ∧ (¬ c → q) := ⟨fun _ => hp, fun h => absurd hc h⟩
theorem si_sr {σ : St2} {k j : Nat} {r : Nat → Int32} {v : Int32} : si (sr σ k r) k j v = sr σ k (upd r j v) := by
  unfold si sr
  rw [show (upr σ.1 k r, σ.2).1 = upr σ.1 k r from rfl, upr_eq]
  congr 1
  funext a
  unfold upr
  by_cases h : a = k <;> simp [h]
theorem sr_sr {σ : St2} {k : Nat} {r r' : Nat → Int32} : sr (sr σ k r) k r' = sr σ k r' := by
  unfold sr
  congr 1
  funext a
  unfold upr
  by_cases h : a = k <;> simp [h]
theorem sr_self {σ : St2} {k : Nat} : sr σ k (σ.1 k) = σ := by
  unfold sr
  have : upr σ.1 k (σ.1 k) = σ.1 := by
    funext a
    unfold upr
    by_cases h : a = k <;> simp [h]
  rw [this]
theorem si_is {σ : St2} {k j : Nat} {v : Int32} : si σ k j v = sr σ k (upd (σ.1 k) j v) := rfl
theorem tr_n3 {k f : Nat} : ¬ tr k f = 3 := by unfold tr; omega
theorem tr_n2 {k f : Nat} : ¬ tr k f = 2 := by unfold tr; omega
theorem n3_tr {k f : Nat} : ¬ 3 = tr k f := by unfold tr; omega
theorem n2_tr {k f : Nat} : ¬ 2 = tr k f := by unfold tr; omega
theorem updI {f : Nat → Int32} {j i : Nat} {x : Int32} : upd f j x i = if i = j then x else f i := rfl
/-- S with one lock more -/
def cmS (S : Nat → Int32) (kind : Int32) : Nat → Int32 := fun i =>
  if i = 3 then nI (nv S 3 + 1) else if i = tr (nv S 3) 0 then kind else if i = tr (nv S 3) 1 then 10 else if i = tr (nv S 3) 5 then 1 else if tr (nv S 3) 0 ≤ i ∧ i < tr (nv S 3) 10 then 0 else S i
def clS (S : Nat → Int32) (k f : Nat) : Nat → Int32 := fun i => if tr k 0 ≤ i ∧ i < tr k f then 0 else S i
theorem clS_0 {S : Nat → Int32} {k : Nat} : clS S k 0 = S := by
  funext i
  unfold clS
  rw [if_neg (by omega)]
theorem clS_s {S : Nat → Int32} {k f : Nat} : upd (clS S k f) (tr k f) 0 = clS S k (f + 1) := by
  funext i
  unfold clS upd tr
  by_cases h : i = 10 + 10 * k + f
  · rw [if_pos h, if_pos (by omega)]
  · rw [if_neg h]
    show (if _ then _ else _) = _
    by_cases h2 : 10 + 10 * k + 0 ≤ i ∧ i < 10 + 10 * k + f
    · rw [if_pos h2, if_pos (by omega)]
    · rw [if_neg h2, if_neg (by omega)]
theorem v7_0 : vp_in (0 : Int32) 7 = True := eq_true (vp_in_nI (n := 0) (by decide) (by decide))
theorem v7_1 : vp_in (1 : Int32) 7 = True := eq_true (vp_in_nI (n := 1) (by decide) (by decide))
theorem v7_2 : vp_in (2 : Int32) 7 = True := eq_true (vp_in_nI (n := 2) (by decide) (by decide))
theorem v7_3 : vp_in (3 : Int32) 7 = True := eq_true (vp_in_nI (n := 3) (by decide) (by decide))
theorem v7_4 : vp_in (4 : Int32) 7 = True := eq_true (vp_in_nI (n := 4) (by decide) (by decide))
theorem v7_5 : vp_in (5 : Int32) 7 = True := eq_true (vp_in_nI (n := 5) (by decide) (by decide))
theorem v7_6 : vp_in (6 : Int32) 7 = True := eq_true (vp_in_nI (n := 6) (by decide) (by decide))
section MB
variable {ev : EV} {σ : St2} {K : PO}
theorem and_keep {a k : Nat} (ha : a < 2 ^ k) (hk : k < 31) : nI a &&& (((1 : Int32) <<< (nI k &&& 31)) ^^^ -1) = nI a := by
  rw [nI_sh1 k hk, show (-1 : Int32) = nI 4294967295 from by decide, nx_xor, fa_and]
  congr 1
  apply Nat.eq_of_testBit_eq
  intro i
  rw [Nat.testBit_and, Nat.testBit_xor, Nat.testBit_two_pow]
  by_cases hi : i < k
  · rw [show (4294967295 : Nat) = 2 ^ 32 - 1 from rfl, Nat.testBit_two_pow_sub_one]
    simp [show ¬ k = i by omega, show i < 32 by omega]
  · have e : a.testBit i = false := Nat.testBit_lt_two_pow (Nat.lt_of_lt_of_le ha (Nat.pow_le_pow_right (by decide) (by omega)))
    rw [e]; rfl
theorem R_comes {kind : Int32} (hI : Inv (σ.1 1)) (hlt : nv (σ.1 1) 3 < 10) (hk : K none (sr σ 1 (cmS (σ.1 1) kind))) : Rn 1 ev mM_comes [.ref 0, .int kind] σ K := by
  refine Rn_V (by decide) rc6 rfl rfl ?_
  refine PW_blk okM_comes 0 rfl SpM_ok ?_
  simp only [wL0, wLc, true_and, w2, lg0, lgi, lgr, lgl, w35, kM0, rM0, kM1, nM1, w0, w39, w4, ls00, ls0i, ls0r, ls0l, lsi, lsr, lsl, Option.map_some, tn0, vi0_120, tn3, vi3_120, w71, hI.1.1]
  have key := lp_up (n := 10) (P := fun f => PW 1 ev mM_comes 9 [.ref 0, .int kind, .int (nI (nv (σ.1 1) 3)), .int (nI f)] [] (sr σ 1 (clS (σ.1 1) (nv (σ.1 1) 3) f)) K) ?_ ?_ 0 (by decide)
  · rw [clS_0, sr_self] at key
    exact key
  · refine PW_blk okM_comes 1 rfl SpM_ok ?_
    simp only [wL0, wLc, true_and, w1, lg0, lgi, lgr, lgl, w0, w81]
    refine b3N (by decide) ?_
    refine PW_blk okM_comes 3 rfl SpM_ok ?_
    simp only [wL0, wLc, true_and, w2, lg0, lgi, lgr, lgl, w1, w0, w54_4, q40, q41, q42, q43, q44, Option.toList_some, Option.toList_none, List.cons_append, List.nil_append, sp_puts, w35, kM0, rM0, kM1, nM1, w10i, w10r, w39, w19, w18, w16, w40, w11, tn0, vi0_120, tn1, vi1_120, tn2, vi2_120, tn3, vi3_120, tn5, vi5_120, tn10, vi10_120, w87, gv0 hlt, gt0 hlt, gv1 hlt, gt1 hlt, gv5 hlt, gt5 hlt, si_sr, sr1]
    refine fa_post2 rfl ?_ hk
    congr 1
    have e2 : clS (σ.1 1) (nv (σ.1 1) 3) 10 2 = nI (nv (σ.1 1) 2) := by
      unfold clS
      rw [if_neg (by unfold tr; omega)]
      exact hI.2.1.1.1
    have e3 : clS (σ.1 1) (nv (σ.1 1) 3) 10 3 = nI (nv (σ.1 1) 3) := by
      unfold clS
      rw [if_neg (by unfold tr; omega)]
      exact hI.1.1
    simp only [updI, n3_tr, n2_tr, if_false, e2, e3, and_keep hI.2.1.2 (by omega : nv (σ.1 1) 3 < 31)]
    funext i
    simp only [updI]
    unfold cmS
    by_cases h3 : i = 3
    · subst h3
      rw [if_pos rfl, if_pos rfl, if_neg (by decide), show (1 : Int32) = nI 1 from rfl, nI_add]
    rw [if_neg h3, if_neg h3]
    by_cases h2 : i = 2
    · subst h2
      rw [if_pos rfl, if_neg n2_tr, if_neg n2_tr, if_neg n2_tr, if_neg (by unfold tr; omega)]
      exact hI.2.1.1.1.symm
    rw [if_neg h2]
    by_cases h5 : i = tr (nv (σ.1 1) 3) 5
    · rw [if_pos h5, if_neg (by rw [h5]; unfold tr; omega), if_neg (by rw [h5]; unfold tr; omega), if_pos h5]
    rw [if_neg h5]
    by_cases h1 : i = tr (nv (σ.1 1) 3) 1
    · rw [if_pos h1, if_neg (by rw [h1]; unfold tr; omega), if_pos h1]
    rw [if_neg h1]
    by_cases h0 : i = tr (nv (σ.1 1) 3) 0
    · rw [if_pos h0, if_pos h0]
    rw [if_neg h0, if_neg h0, if_neg h1, if_neg h5]
    rfl
  · intro f hf ih
    refine PW_blk okM_comes 1 rfl SpM_ok ?_
    simp only [wL0, wLc, true_and, w1, lg0, lgi, lgr, lgl, w0, w81]
    refine b3Y (nI_lt hf (by decide)) ?_
    refine PW_blk okM_comes 2 rfl SpM_ok ?_
    simp only [wL0, wLc, true_and, w2, lg0, lgi, lgr, lgl, w1, w0, w54_4, q40, q41, q42, q43, q44, Option.toList_some, Option.toList_none, List.cons_append, List.nil_append, sp_puts, w7, ls00, ls0i, ls0r, ls0l, lsi, lsr, lsl, Option.map_some, w70, gv_n hlt hf, gt_n hlt hf, si_sr, clS_s]
    rw [show (1 : Int32) = nI 1 from rfl, nI_add]
    exact ih
theorem R_lock {kind : Int32} (hI : Inv (σ.1 1)) (h1 : ¬ rgI kind 0 6 → K (some (.int (-1000001))) (noS σ 0)) (h2 : rgI kind 0 6 → nv (σ.1 1) 3 = 10 → K (some (.int (-1000002))) (noS σ 1)) (h3 : rgI kind 0 6 → nv (σ.1 1) 3 < 10 → K (some (.int (nI (nv (σ.1 1) 3)))) (sr σ 1 (cmS (σ.1 1) kind))) : Rn 1 ev mM_lock [.ref 0, .int kind] σ K := by
  refine Rn_V (by decide) rc6 rfl rfl ?_
  refine PW_blk okM_lock 0 rfl SpM_ok ?_
  simp only [wL0, wLc, true_and, w1, lg0, lgi, lgr, lgl, w0, w55_3, q40, q41, q42, q43, q44, Option.toList_some, Option.toList_none, List.cons_append, List.nil_append, sp_in1, w73]
  by_cases hr : rgI kind 0 6
  · refine dY (in1Y (by decide) hr) ?_
    refine PW_blk okM_lock 2 rfl SpM_ok ?_
    simp only [wL0, wLc, true_and, w2, lg0, lgi, lgr, lgl, w35, kM0, rM0, kM1, nM1, w0, w39, tn3, vi3_120, tn10, vi10_120, w79, hI.1.1]
    by_cases h10 : nv (σ.1 1) 3 = 10
    · rw [h10]
      refine ⟨fun h => absurd rfl h, fun _ => ?_⟩
      refine PW_blk okM_lock 3 rfl SpM_ok ?_
      simp only [wL0, wLc, true_and, w2, lg0, lgi, lgr, lgl, w0, w54_2, q40, q41, q42, q43, q44, Option.toList_some, Option.toList_none, List.cons_append, List.nil_append, sp_no, v7_0, v7_1, v7_2, v7_3, v7_4, v7_5, v7_6, w84]
      exact h2 hr h10
    · have hlt : nv (σ.1 1) 3 < 10 := by have := hI.1.2; omega
      refine ⟨fun _ => ?_, fun h => absurd ((nI_eq_iff (b := 10) (by omega) (by decide)).mp h) h10⟩
      refine PW_blk okM_lock 4 rfl SpM_ok ?_
      simp only [wL0, wLc, true_and, w2, lg0, lgi, lgr, lgl, w1, w54_2, q40, q41, q42, q43, q44, Option.toList_some, Option.toList_none, List.cons_append, List.nil_append, w35, kM0, rM0, kM1, nM1, w0, w39, w12, tn1, vi1_120, tn3, vi3_120, w84]
      refine R_comes hI hlt ?_
      simp only [wL0, wLc, true_and, w2, lg0, lgi, lgr, lgl, w1, w54_2, q40, q41, q42, q43, q44, Option.toList_some, Option.toList_none, List.cons_append, List.nil_append, w35, kM0, rM0, kM1, nM1, w0, w39, w12, tn1, vi1_120, tn3, vi3_120, w84, sr1]
      have e : cmS (σ.1 1) kind 3 - 1 = nI (nv (σ.1 1) 3) := by
        unfold cmS
        rw [if_pos rfl, show (1 : Int32) = nI 1 from rfl, pk_sub (by omega)]
        congr 1
      rw [e]
      exact h3 hr hlt
  · refine dN (in1N (by decide) (by decide) hr) ?_
    refine PW_blk okM_lock 1 rfl SpM_ok ?_
    simp only [wL0, wLc, true_and, w2, lg0, lgi, lgr, lgl, w0, w54_2, q40, q41, q42, q43, q44, Option.toList_some, Option.toList_none, List.cons_append, List.nil_append, sp_no, v7_0, v7_1, v7_2, v7_3, v7_4, v7_5, v7_6, w84]
    exact h1 hr
end MB
