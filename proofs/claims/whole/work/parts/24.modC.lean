/-! of, change, rule, on, shut, may, why, off, now, costs -/
theorem wide_here : True := by have _h := @Jvm.Example.Sh0.dc0; trivial
noncomputable def ofF (S : Nat → Int32) (k w : Nat) : Int32 := if w < 10 then S (tr k w) else if w = 10 then (if (nv S 2).testBit k then 0 else 1) else if w = 11 then nI (takesN S k (nv S 2)) else nI (soundN S k)
def mostN (S : Nat → Int32) (w : Nat) : Nat := if w = 0 then 6 else if w = 1 then 60 else if w = 2 then 9 else if w = 3 then 40 else if w = 4 then 3 else if w = 5 then 2 else if w = 6 then 4 else if w = 7 then 9 else 2 ^ nv S 3 - 1
def leastN (w : Nat) : Nat := if w = 1 then 1 else 0
def mostR (S : Nat → Int32) (w : Nat) : Nat := if w = 0 then 15 else if w = 1 then 40 else if w = 2 then 2 ^ nv S 3 - 1 else 60
def okC (S : Nat → Int32) (l what v : Int32) : Prop := ∃ k w n, k < nv S 3 ∧ l = nI k ∧ w ≤ 9 ∧ what = nI w ∧ leastN w ≤ n ∧ n ≤ mostN S w ∧ v = nI n
def okR (S : Nat → Int32) (what v : Int32) : Prop := ∃ w n, w ≤ 4 ∧ what = nI w ∧ n ≤ mostR S w ∧ v = nI n
/-- a without b's bits -/
def dif (a b : Nat) : Nat := a &&& (b ^^^ 4294967295)
theorem dif_I (a b : Nat) : nI a &&& (nI b ^^^ -1) = nI (dif a b) := by
  rw [show (-1 : Int32) = nI 4294967295 from by decide, nx_xor, fa_and]
  rfl
theorem dif_le (a b : Nat) : dif a b ≤ a := Nat.and_le_left
theorem dif_bit {a b : Nat} (i : Nat) (ha : a < 2 ^ 32) : (dif a b).testBit i = (a.testBit i && !b.testBit i) := by
  unfold dif
  rw [Nat.testBit_and, Nat.testBit_xor]
  by_cases hi : i < 32
  · rw [show (4294967295 : Nat) = 2 ^ 32 - 1 from rfl, Nat.testBit_two_pow_sub_one]
    simp [hi]
  · have e : a.testBit i = false := Nat.testBit_lt_two_pow (Nat.lt_of_lt_of_le ha (Nat.pow_le_pow_right (by decide) (by omega)))
    rw [e]; rfl
theorem dif_self {a k : Nat} (ha : a < 2 ^ 32) : dif a (2 ^ k) = a ↔ a.testBit k = false := by
  constructor
  · intro h
    have h2 := dif_bit (b := 2 ^ k) k ha
    rw [h, Nat.testBit_two_pow] at h2
    simpa using h2
  · intro h
    apply Nat.eq_of_testBit_eq
    intro i
    rw [dif_bit i ha, Nat.testBit_two_pow]
    by_cases e : k = i
    · subst e; rw [h]; rfl
    · simp [e]
theorem mayU_bit (S : Nat → Int32) (o : Nat) : ∀ n k, (mayU S o n).testBit k = true ↔ k < n ∧ whyF S k o (nI (slackN S o)) (nI (hdN S o)) = 0
  | 0, k => by simp [mayU]
  | n + 1, k => by
    have ih := mayU_bit S o n k
    unfold mayU
    rw [Nat.testBit_or, Bool.or_eq_true, ih]
    split
    next h =>
      rw [Nat.testBit_two_pow]
      constructor
      · intro z
        rcases z with z | z
        · exact ⟨by omega, z.2⟩
        · have e : n = k := of_decide_eq_true z
          subst e
          exact ⟨by omega, h⟩
      · intro z
        by_cases e : n = k
        · exact Or.inr (decide_eq_true e)
        · exact Or.inl ⟨by omega, z.2⟩
    next h =>
      rw [Nat.zero_testBit]
      constructor
      · intro z
        rcases z with z | z
        · exact ⟨by omega, z.2⟩
        · cases z
      · intro z
        by_cases e : n = k
        · subst e; exact absurd z.2 h
        · exact Or.inl ⟨by omega, z.2⟩
theorem mayN_bit {S : Nat → Int32} {o k : Nat} : (mayN S o).testBit k = true ↔ k < nv S 3 ∧ mayok S k o := mayU_bit S o _ k
theorem mayU_lt (S : Nat → Int32) (o : Nat) : ∀ n, mayU S o n < 2 ^ n
  | 0 => by simp [mayU]
  | n + 1 => by
    have ih := mayU_lt S o n
    unfold mayU
    refine Nat.or_lt_two_pow (Nat.lt_of_lt_of_le ih (Nat.pow_le_pow_right (by decide) (by omega))) ?_
    split
    · exact Nat.pow_lt_pow_right (by decide) (by omega)
    · exact Nat.two_pow_pos _
theorem mayN_lt (S : Nat → Int32) (o : Nat) : mayN S o < 2 ^ nv S 3 := mayU_lt S o _
theorem i_ne {n m : Nat} (h : ¬ n = m) (hn : n < 2147483648) (hm : m < 2147483648) : ¬ nI n = nI m := fun e => h ((nI_eq_iff hn hm).mp e)
def stS (S : Nat → Int32) (k : Nat) : Nat → Int32 := upd (upd (upd S 1 (S 1 + if plF (S 7) (S 8) (S 0) = 0 then nI (soundN S k) else 0)) 0 (S 0 + nI (takesN S k (nv S 2)))) 2 (S 2 ||| ((1 : Int32) <<< (nI k &&& 31)))
noncomputable def nowF (S : Nat → Int32) (w : Nat) : Int32 := if w = 0 then S 0 else if w = 1 then S 1 else if w = 2 then S 2 else if w = 3 then nI (slackN S (nv S 2)) else if w = 4 then nI (frN S (nv S 2)) else if w = 5 then outF (S 6) (S 2) else plF (S 7) (S 8) (S 0)
theorem plF_01 (a b c : Int32) : plF a b c = 0 ∨ plF a b c = 1 := by
  unfold plF
  split
  · exact b01
  · exact Or.inl rfl
section MC
variable {ev : EV} {σ : St2} {K : PO}
theorem R_of {l what : Int32} (hI : Inv (σ.1 1)) (h1 : ¬ (hasL (σ.1 1) l ∧ rgI what 0 12) → K (some (.int (-1000001))) (noS σ 0)) (h2 : ∀ k w, k < nv (σ.1 1) 3 → l = nI k → w ≤ 12 → what = nI w → K (some (.int (ofF (σ.1 1) k w))) σ) : Rn 1 ev mM_of [.ref 0, .int l, .int what] σ K := by
  have hG := hI.2.1.1
  have hn := hI.1.2
  have hlt : nv (σ.1 1) 2 < 1024 := by have := hG.2; omega
  refine Rn_V (by decide) rc6 rfl rfl ?_
  refine PW_blk okM_of 0 rfl SpM_ok ?_
  simp only [wL0, wLc, true_and, w2, lg0, lgi, lgr, lgl, w1, w54_2, q40, q41, q42, q43, q44, Option.toList_some, Option.toList_none, List.cons_append, List.nil_append, sp_isLock, w72]
  by_cases hl : hasL (σ.1 1) l
  rotate_left
  · refine bN (in1LN hI.1 hl) ?_
    refine PW_blk okM_of 2 rfl SpM_ok ?_
    simp only [wL0, wLc, true_and, w2, lg0, lgi, lgr, lgl, w0, w54_2, q40, q41, q42, q43, q44, Option.toList_some, Option.toList_none, List.cons_append, List.nil_append, sp_no, v7_0, v7_1, v7_2, v7_3, v7_4, v7_5, v7_6, w84]
    exact h1 (fun z => hl z.1)
  refine bY (in1LY hI.1 hl) ?_
  refine PW_blk okM_of 1 rfl SpM_ok ?_
  simp only [wL0, wLc, true_and, w1, lg0, lgi, lgr, lgl, w0, w55_3, q40, q41, q42, q43, q44, Option.toList_some, Option.toList_none, List.cons_append, List.nil_append, sp_in1, w73]
  by_cases hw : rgI what 0 12
  rotate_left
  · refine dN (in1N (by decide) (by decide) hw) ?_
    refine PW_blk okM_of 2 rfl SpM_ok ?_
    simp only [wL0, wLc, true_and, w2, lg0, lgi, lgr, lgl, w0, w54_2, q40, q41, q42, q43, q44, Option.toList_some, Option.toList_none, List.cons_append, List.nil_append, sp_no, v7_0, v7_1, v7_2, v7_3, v7_4, v7_5, v7_6, w84]
    exact h1 (fun z => hw z.2)
  refine dY (in1Y (by decide) hw) ?_
  obtain ⟨k, hk, rfl⟩ := hl
  obtain ⟨w, -, hw, rfl⟩ := hw
  have hkk := h2 k w hk rfl hw rfl
  unfold ofF at hkk
  refine PW_blk okM_of 3 rfl SpM_ok ?_
  simp only [wL0, wLc, true_and, w2, lg0, lgi, lgr, lgl, w35, kM0, rM0, kM1, nM1, w0, w39, w4, ls00, ls0i, ls0r, ls0l, lsi, lsr, lsl, Option.map_some, w1, tn2, vi2_120, tn10, vi10_120, w81, hG.1]
  by_cases c1 : w < 10
  · refine b3Y (nI_lt c1 (by decide)) ?_
    rw [if_pos c1] at hkk
    refine PW_blk okM_of 4 rfl SpM_ok ?_
    simp only [wL0, wLc, true_and, w2, lg0, lgi, lgr, lgl, w1, w54_3, q40, q41, q42, q43, q44, Option.toList_some, Option.toList_none, List.cons_append, List.nil_append, sp_get, w70, gv_n (show k < 10 by omega) c1, gt_n (show k < 10 by omega) c1]
    refine PW_blk okM_of 12 rfl SpM_ok ?_
    simp only [wL0, w84]
    exact hkk
  rw [if_neg c1] at hkk
  refine b3N (nI_nlt (a := w) (b := 10) (by omega) (by omega)) ?_
  refine PW_blk okM_of 5 rfl SpM_ok ?_
  simp only [wL0, wLc, true_and, w1, lg0, lgi, lgr, lgl, w0, w79]
  by_cases c2 : w = 10
  · subst c2
    rw [if_pos rfl] at hkk
    refine b3Y rfl ?_
    refine PW_blk okM_of 6 rfl SpM_ok ?_
    simp only [wL0, wLc, true_and, w1, lg0, lgi, lgr, lgl, w55_2, q40, q41, q42, q43, q44, Option.toList_some, Option.toList_none, List.cons_append, List.nil_append, sp_isIn, w72]
    rw [isInF_n (by omega) (by omega)]
    by_cases hb : (nv (σ.1 1) 2).testBit k = true
    · rw [if_pos hb] at hkk ⊢
      refine bY rfl ?_
      refine PW_blk okM_of 7 rfl SpM_ok ?_
      simp only [wL0, wLc, true_and, w0, w70]
      refine PW_blk okM_of 12 rfl SpM_ok ?_
      simp only [wL0, w84]
      exact hkk
    · rw [if_neg hb] at hkk ⊢
      refine bN rfl ?_
      refine PW_blk okM_of 8 rfl SpM_ok ?_
      simp only [wL0, wLc, true_and, w0, w70]
      refine PW_blk okM_of 12 rfl SpM_ok ?_
      simp only [wL0, w84]
      exact hkk
  rw [if_neg c2] at hkk
  refine b3N (i_ne c2 (by omega) (by decide)) ?_
  refine PW_blk okM_of 9 rfl SpM_ok ?_
  simp only [wL0, wLc, true_and, w1, lg0, lgi, lgr, lgl, w0, w79]
  by_cases c3 : w = 11
  · subst c3
    rw [if_pos rfl] at hkk
    refine b3Y rfl ?_
    refine PW_blk okM_of 10 rfl SpM_ok ?_
    simp only [wL0, wLc, true_and, w2, lg0, lgi, lgr, lgl, w1, w54_2, q40, q41, q42, q43, q44, Option.toList_some, Option.toList_none, List.cons_append, List.nil_append, w54_5, w70]
    refine R_slackBy hI hlt ?_
    simp only [wL0, wLc, true_and, w2, lg0, lgi, lgr, lgl, w1, w54_2, q40, q41, q42, q43, q44, Option.toList_some, Option.toList_none, List.cons_append, List.nil_append, w54_5, w70]
    refine R_freeBy hI hlt ?_
    simp only [wL0, wLc, true_and, w2, lg0, lgi, lgr, lgl, w1, w54_2, q40, q41, q42, q43, q44, Option.toList_some, Option.toList_none, List.cons_append, List.nil_append, w54_5, w70]
    refine R_takesBy hI hlt hk ?_
    simp only [wL0, wLc, true_and, w2, lg0, lgi, lgr, lgl, w1, w54_2, q40, q41, q42, q43, q44, Option.toList_some, Option.toList_none, List.cons_append, List.nil_append, w54_5, w70]
    refine PW_blk okM_of 12 rfl SpM_ok ?_
    simp only [wL0, w84]
    exact hkk
  rw [if_neg c3] at hkk
  refine b3N (i_ne c3 (by omega) (by decide)) ?_
  refine PW_blk okM_of 11 rfl SpM_ok ?_
  simp only [wL0, wLc, true_and, w2, lg0, lgi, lgr, lgl, w1, w54_2, q40, q41, q42, q43, q44, Option.toList_some, Option.toList_none, List.cons_append, List.nil_append, w71]
  refine R_soundsOf hI hk ?_
  simp only [wL0, wLc, true_and, w2, lg0, lgi, lgr, lgl, w1, w54_2, q40, q41, q42, q43, q44, Option.toList_some, Option.toList_none, List.cons_append, List.nil_append, w71]
  refine PW_blk okM_of 12 rfl SpM_ok ?_
  simp only [wL0, w84]
  exact hkk
theorem R_mostOf {w : Nat} (hI : Inv (σ.1 1)) (hw : w ≤ 9) (hk : K (some (.int (nI (mostN (σ.1 1) w)))) σ) : Rn 1 ev mM_mostOf [.ref 0, .int (nI w)] σ K := by
  have hn := hI.1.2
  refine Rn_V (by decide) rc6 rfl rfl ?_
  refine PW_blk okM_mostOf 0 rfl SpM_ok ?_
  simp only [wL0, wLc, true_and, w1, lg0, lgi, lgr, lgl, w90, wS0, wSc]
  rcases (show w = 0 ∨ w = 1 ∨ w = 2 ∨ w = 3 ∨ w = 4 ∨ w = 5 ∨ w = 6 ∨ w = 7 ∨ w = 8 ∨ w = 9 by omega) with rfl | rfl | rfl | rfl | rfl | rfl | rfl | rfl | rfl | rfl
  · refine ⟨fun _ => ?_, fun h => absurd rfl h⟩
    refine PW_blk okM_mostOf 1 rfl SpM_ok ?_
    simp only [wL0, wLc, true_and, w0, w84]
    exact hk
  · refine ⟨fun h => absurd h (by decide), fun _ => ?_⟩
    refine ⟨fun _ => ?_, fun h => absurd rfl h⟩
    refine PW_blk okM_mostOf 2 rfl SpM_ok ?_
    simp only [wL0, wLc, true_and, w0, w84]
    exact hk
  · refine ⟨fun h => absurd h (by decide), fun _ => ?_⟩
    refine ⟨fun h => absurd h (by decide), fun _ => ?_⟩
    refine ⟨fun _ => ?_, fun h => absurd rfl h⟩
    refine PW_blk okM_mostOf 8 rfl SpM_ok ?_
    simp only [wL0, wLc, true_and, w0, w84]
    exact hk
  · refine ⟨fun h => absurd h (by decide), fun _ => ?_⟩
    refine ⟨fun h => absurd h (by decide), fun _ => ?_⟩
    refine ⟨fun h => absurd h (by decide), fun _ => ?_⟩
    refine ⟨fun _ => ?_, fun h => absurd rfl h⟩
    refine PW_blk okM_mostOf 3 rfl SpM_ok ?_
    simp only [wL0, wLc, true_and, w0, w84]
    exact hk
  · refine ⟨fun h => absurd h (by decide), fun _ => ?_⟩
    refine ⟨fun h => absurd h (by decide), fun _ => ?_⟩
    refine ⟨fun h => absurd h (by decide), fun _ => ?_⟩
    refine ⟨fun h => absurd h (by decide), fun _ => ?_⟩
    refine ⟨fun _ => ?_, fun h => absurd rfl h⟩
    refine PW_blk okM_mostOf 4 rfl SpM_ok ?_
    simp only [wL0, wLc, true_and, w0, w84]
    exact hk
  · refine ⟨fun h => absurd h (by decide), fun _ => ?_⟩
    refine ⟨fun h => absurd h (by decide), fun _ => ?_⟩
    refine ⟨fun h => absurd h (by decide), fun _ => ?_⟩
    refine ⟨fun h => absurd h (by decide), fun _ => ?_⟩
    refine ⟨fun h => absurd h (by decide), fun _ => ?_⟩
    refine ⟨fun _ => ?_, fun h => absurd rfl h⟩
    refine PW_blk okM_mostOf 5 rfl SpM_ok ?_
    simp only [wL0, wLc, true_and, w0, w84]
    exact hk
  · refine ⟨fun h => absurd h (by decide), fun _ => ?_⟩
    refine ⟨fun h => absurd h (by decide), fun _ => ?_⟩
    refine ⟨fun h => absurd h (by decide), fun _ => ?_⟩
    refine ⟨fun h => absurd h (by decide), fun _ => ?_⟩
    refine ⟨fun h => absurd h (by decide), fun _ => ?_⟩
    refine ⟨fun h => absurd h (by decide), fun _ => ?_⟩
    refine ⟨fun _ => ?_, fun h => absurd rfl h⟩
    refine PW_blk okM_mostOf 6 rfl SpM_ok ?_
    simp only [wL0, wLc, true_and, w0, w84]
    exact hk
  · refine ⟨fun h => absurd h (by decide), fun _ => ?_⟩
    refine ⟨fun h => absurd h (by decide), fun _ => ?_⟩
    refine ⟨fun h => absurd h (by decide), fun _ => ?_⟩
    refine ⟨fun h => absurd h (by decide), fun _ => ?_⟩
    refine ⟨fun h => absurd h (by decide), fun _ => ?_⟩
    refine ⟨fun h => absurd h (by decide), fun _ => ?_⟩
    refine ⟨fun h => absurd h (by decide), fun _ => ?_⟩
    refine ⟨fun _ => ?_, fun h => absurd rfl h⟩
    refine PW_blk okM_mostOf 8 rfl SpM_ok ?_
    simp only [wL0, wLc, true_and, w0, w84]
    exact hk
  · refine ⟨fun h => absurd h (by decide), fun _ => ?_⟩
    refine ⟨fun h => absurd h (by decide), fun _ => ?_⟩
    refine ⟨fun h => absurd h (by decide), fun _ => ?_⟩
    refine ⟨fun h => absurd h (by decide), fun _ => ?_⟩
    refine ⟨fun h => absurd h (by decide), fun _ => ?_⟩
    refine ⟨fun h => absurd h (by decide), fun _ => ?_⟩
    refine ⟨fun h => absurd h (by decide), fun _ => ?_⟩
    refine ⟨fun h => absurd h (by decide), fun _ => ?_⟩
    refine ⟨fun _ => ?_, fun h => absurd rfl h⟩
    refine PW_blk okM_mostOf 7 rfl SpM_ok ?_
    simp only [wL0, wLc, true_and, w2, lg0, lgi, lgr, lgl, w54_1, q40, q41, q42, q43, q44, Option.toList_some, Option.toList_none, List.cons_append, List.nil_append, sp_allLocks, w84, hI.1.1]
    rw [alF_n _ (by omega)]
    exact hk
  · refine ⟨fun h => absurd h (by decide), fun _ => ?_⟩
    refine ⟨fun h => absurd h (by decide), fun _ => ?_⟩
    refine ⟨fun h => absurd h (by decide), fun _ => ?_⟩
    refine ⟨fun h => absurd h (by decide), fun _ => ?_⟩
    refine ⟨fun h => absurd h (by decide), fun _ => ?_⟩
    refine ⟨fun h => absurd h (by decide), fun _ => ?_⟩
    refine ⟨fun h => absurd h (by decide), fun _ => ?_⟩
    refine ⟨fun h => absurd h (by decide), fun _ => ?_⟩
    refine ⟨fun h => absurd h (by decide), fun _ => ?_⟩
    refine ⟨fun _ => ?_, fun h => absurd rfl h⟩
    refine PW_blk okM_mostOf 7 rfl SpM_ok ?_
    simp only [wL0, wLc, true_and, w2, lg0, lgi, lgr, lgl, w54_1, q40, q41, q42, q43, q44, Option.toList_some, Option.toList_none, List.cons_append, List.nil_append, sp_allLocks, w84, hI.1.1]
    rw [alF_n _ (by omega)]
    exact hk
theorem mostN_lt {S : Nat → Int32} {w : Nat} (h : nv S 3 ≤ 10) : mostN S w < 1024 := by
  have := p2le _ h
  unfold mostN
  repeat' split
  all_goals omega
theorem mostR_lt {S : Nat → Int32} {w : Nat} (h : nv S 3 ≤ 10) : mostR S w < 1024 := by
  have := p2le _ h
  unfold mostR
  repeat' split
  all_goals omega
theorem R_change {l what v : Int32} (hI : Inv (σ.1 1)) (h1 : ¬ okC (σ.1 1) l what v → K (some (.int (-1000001))) (noS σ 0)) (h2 : ∀ k w n, k < nv (σ.1 1) 3 → l = nI k → w ≤ 9 → what = nI w → leastN w ≤ n → n ≤ mostN (σ.1 1) w → v = nI n → K (some (.int (σ.1 1 (tr k w)))) (sr σ 1 (upd (σ.1 1) (tr k w) (nI n)))) : Rn 1 ev mM_change [.ref 0, .int l, .int what, .int v] σ K := by
  have hn := hI.1.2
  refine Rn_V (by decide) rc6 rfl rfl ?_
  refine PW_blk okM_change 0 rfl SpM_ok ?_
  simp only [wL0, wLc, true_and, w2, lg0, lgi, lgr, lgl, w1, w54_2, q40, q41, q42, q43, q44, Option.toList_some, Option.toList_none, List.cons_append, List.nil_append, sp_isLock, w72]
  by_cases hl : hasL (σ.1 1) l
  rotate_left
  · refine bN (in1LN hI.1 hl) ?_
    refine PW_blk okM_change 6 rfl SpM_ok ?_
    simp only [wL0, wLc, true_and, w2, lg0, lgi, lgr, lgl, w0, w54_2, q40, q41, q42, q43, q44, Option.toList_some, Option.toList_none, List.cons_append, List.nil_append, sp_no, v7_0, v7_1, v7_2, v7_3, v7_4, v7_5, v7_6, w84]
    exact h1 (fun z => by obtain ⟨k, w, n, a, b, -⟩ := z; exact hl ⟨k, a, b⟩)
  refine bY (in1LY hI.1 hl) ?_
  refine PW_blk okM_change 1 rfl SpM_ok ?_
  simp only [wL0, wLc, true_and, w1, lg0, lgi, lgr, lgl, w0, w55_3, q40, q41, q42, q43, q44, Option.toList_some, Option.toList_none, List.cons_append, List.nil_append, sp_in1, w72]
  by_cases hw : rgI what 0 9
  rotate_left
  · refine bN (in1N (by decide) (by decide) hw) ?_
    refine PW_blk okM_change 6 rfl SpM_ok ?_
    simp only [wL0, wLc, true_and, w2, lg0, lgi, lgr, lgl, w0, w54_2, q40, q41, q42, q43, q44, Option.toList_some, Option.toList_none, List.cons_append, List.nil_append, sp_no, v7_0, v7_1, v7_2, v7_3, v7_4, v7_5, v7_6, w84]
    exact h1 (fun z => by obtain ⟨k, w, n, a, b, c, d, -⟩ := z; exact hw ⟨w, by omega, c, d⟩)
  refine bY (in1Y (by decide) hw) ?_
  obtain ⟨k, hk, rfl⟩ := hl
  obtain ⟨w, -, hw, rfl⟩ := hw
  have fin : PW 1 ev mM_change 29 [.ref 0, .int (nI k), .int (nI w), .int v] [.int (nI (leastN w)), .int v] σ K := by
    refine PW_blk okM_change 5 rfl SpM_ok ?_
    simp only [wL0, wLc, true_and, w2, lg0, lgi, lgr, lgl, w1, w54_2, q40, q41, q42, q43, q44, Option.toList_some, Option.toList_none, List.cons_append, List.nil_append, w55_3, sp_in1, w73]
    refine R_mostOf hI hw ?_
    simp only [wL0, wLc, true_and, w2, lg0, lgi, lgr, lgl, w1, w54_2, q40, q41, q42, q43, q44, Option.toList_some, Option.toList_none, List.cons_append, List.nil_append, w55_3, sp_in1, w73]
    by_cases hv : rgI v (leastN w) (mostN (σ.1 1) w)
    rotate_left
    · refine dN (in1N (by have := mostN_lt (w := w) hn; omega) (by unfold leastN; split <;> decide) hv) ?_
      refine PW_blk okM_change 6 rfl SpM_ok ?_
      simp only [wL0, wLc, true_and, w2, lg0, lgi, lgr, lgl, w0, w54_2, q40, q41, q42, q43, q44, Option.toList_some, Option.toList_none, List.cons_append, List.nil_append, sp_no, v7_0, v7_1, v7_2, v7_3, v7_4, v7_5, v7_6, w84]
      refine h1 (fun z => ?_)
      obtain ⟨k', w', n, -, -, c, d, e, f, g⟩ := z
      have e2 : w = w' := (nI_eq_iff (by omega) (by omega)).mp d
      subst e2
      exact hv ⟨n, e, f, g⟩
    refine dY (in1Y (by have := mostN_lt (w := w) hn; omega) hv) ?_
    obtain ⟨n, hv1, hv2, rfl⟩ := hv
    have hk10 : k < 10 := by omega
    have hw10 : w < 10 := by omega
    refine PW_blk okM_change 7 rfl SpM_ok ?_
    simp only [wL0, wLc, true_and, w2, lg0, lgi, lgr, lgl, w1, w54_3, q40, q41, q42, q43, q44, Option.toList_some, Option.toList_none, List.cons_append, List.nil_append, sp_get, w4, ls00, ls0i, ls0r, ls0l, lsi, lsr, lsl, Option.map_some, w54_4, sp_puts, w84, gv_n hk10 hw10, gt_n hk10 hw10, si_is]
    exact h2 k w n hk rfl hw rfl hv1 hv2 rfl
  refine PW_blk okM_change 2 rfl SpM_ok ?_
  simp only [wL0, wLc, true_and, w1, lg0, lgi, lgr, lgl, w0, w79]
  by_cases c : w = 1
  · subst c
    refine b3Y rfl ?_
    refine PW_blk okM_change 3 rfl SpM_ok ?_
    simp only [wL0, wLc, true_and, w0, w70]
    exact fin
  · refine b3N (i_ne c (by omega) (by decide)) ?_
    refine PW_blk okM_change 4 rfl SpM_ok ?_
    simp only [wL0, wLc, true_and, w0, w71]
    unfold leastN at fin
    rw [if_neg c] at fin
    exact fin
theorem R_rule {what v : Int32} (hI : Inv (σ.1 1)) (h1 : ¬ okR (σ.1 1) what v → K (some (.int (-1000001))) (noS σ 0)) (h2 : ∀ w n, w ≤ 4 → what = nI w → n ≤ mostR (σ.1 1) w → v = nI n → K (some (.int (σ.1 1 (4 + w)))) (sr σ 1 (upd (σ.1 1) (4 + w) (nI n)))) : Rn 1 ev mM_rule [.ref 0, .int what, .int v] σ K := by
  have hn := hI.1.2
  refine Rn_V (by decide) rc6 rfl rfl ?_
  refine PW_blk okM_rule 0 rfl SpM_ok ?_
  simp only [wL0, wLc, true_and, w1, lg0, lgi, lgr, lgl, w0, w55_3, q40, q41, q42, q43, q44, Option.toList_some, Option.toList_none, List.cons_append, List.nil_append, sp_in1, w73]
  by_cases hw : rgI what 0 4
  rotate_left
  · refine dN (in1N (by decide) (by decide) hw) ?_
    refine PW_blk okM_rule 1 rfl SpM_ok ?_
    simp only [wL0, wLc, true_and, w2, lg0, lgi, lgr, lgl, w0, w54_2, q40, q41, q42, q43, q44, Option.toList_some, Option.toList_none, List.cons_append, List.nil_append, sp_no, v7_0, v7_1, v7_2, v7_3, v7_4, v7_5, v7_6, w84]
    exact h1 (fun z => by obtain ⟨w, n, c, d, -⟩ := z; exact hw ⟨w, by omega, c, d⟩)
  refine dY (in1Y (by decide) hw) ?_
  obtain ⟨w, -, hw, rfl⟩ := hw
  have fin : PW 1 ev mM_rule 50 [.ref 0, .int (nI w), .int v] [.int (nI (mostR (σ.1 1) w)), .int 0, .int v] σ K := by
    refine PW_blk okM_rule 9 rfl SpM_ok ?_
    simp only [wL0, wLc, true_and, w55_3, q40, q41, q42, q43, q44, Option.toList_some, Option.toList_none, List.cons_append, List.nil_append, sp_in1, w73]
    by_cases hv : rgI v 0 (mostR (σ.1 1) w)
    rotate_left
    · refine dN (in1N (by have := mostR_lt (w := w) hn; omega) (by decide) hv) ?_
      refine PW_blk okM_rule 10 rfl SpM_ok ?_
      simp only [wL0, wLc, true_and, w2, lg0, lgi, lgr, lgl, w0, w54_2, q40, q41, q42, q43, q44, Option.toList_some, Option.toList_none, List.cons_append, List.nil_append, sp_no, v7_0, v7_1, v7_2, v7_3, v7_4, v7_5, v7_6, w84]
      refine h1 (fun z => ?_)
      obtain ⟨w', n, c, d, f, g⟩ := z
      have e2 : w = w' := (nI_eq_iff (by omega) (by omega)).mp d
      subst e2
      exact hv ⟨n, by omega, f, g⟩
    refine dY (in1Y (by have := mostR_lt (w := w) hn; omega) hv) ?_
    obtain ⟨n, hv1, hv2, rfl⟩ := hv
    refine PW_blk okM_rule 11 rfl SpM_ok ?_
    simp only [wL0, wLc, true_and, w2, lg0, lgi, lgr, lgl, w35, kM0, rM0, kM1, nM1, w0, w1, w11, w39, w4, ls00, ls0i, ls0r, ls0l, lsi, lsr, lsl, Option.map_some, w40, tn4, vi4_120, w84, si_is]
    rw [show (4 : Int32) = nI 4 from rfl, nI_add, nI_clamp (show 4 + w < 2 ^ 31 by omega)]
    exact ⟨vp_in_nI (by omega) (by decide), vp_in_nI (by omega) (by decide), h2 w n hw rfl hv2 rfl⟩
  refine PW_blk okM_rule 2 rfl SpM_ok ?_
  simp only [wL0, wLc, true_and, w1, lg0, lgi, lgr, lgl, w0, w73]
  rcases (show w = 0 ∨ w = 1 ∨ w = 2 ∨ w = 3 ∨ w = 4 by omega) with rfl | rfl | rfl | rfl | rfl
  · refine b3Y rfl ?_
    refine PW_blk okM_rule 3 rfl SpM_ok ?_
    simp only [wL0, wLc, true_and, w0, w70]
    exact fin
  · refine b3N (by decide) ?_
    refine PW_blk okM_rule 4 rfl SpM_ok ?_
    simp only [wL0, wLc, true_and, w1, lg0, lgi, lgr, lgl, w0, w79]
    refine b3Y rfl ?_
    refine PW_blk okM_rule 5 rfl SpM_ok ?_
    simp only [wL0, wLc, true_and, w0, w70]
    exact fin
  · refine b3N (by decide) ?_
    refine PW_blk okM_rule 4 rfl SpM_ok ?_
    simp only [wL0, wLc, true_and, w1, lg0, lgi, lgr, lgl, w0, w79]
    refine b3N (by decide) ?_
    refine PW_blk okM_rule 6 rfl SpM_ok ?_
    simp only [wL0, wLc, true_and, w1, lg0, lgi, lgr, lgl, w0, w79]
    refine b3Y rfl ?_
    refine PW_blk okM_rule 7 rfl SpM_ok ?_
    simp only [wL0, wLc, true_and, w2, lg0, lgi, lgr, lgl, w54_1, q40, q41, q42, q43, q44, Option.toList_some, Option.toList_none, List.cons_append, List.nil_append, sp_allLocks, w70, hI.1.1]
    rw [alF_n _ (by omega)]
    exact fin
  · refine b3N (by decide) ?_
    refine PW_blk okM_rule 4 rfl SpM_ok ?_
    simp only [wL0, wLc, true_and, w1, lg0, lgi, lgr, lgl, w0, w79]
    refine b3N (by decide) ?_
    refine PW_blk okM_rule 6 rfl SpM_ok ?_
    simp only [wL0, wLc, true_and, w1, lg0, lgi, lgr, lgl, w0, w79]
    refine b3N (by decide) ?_
    refine PW_blk okM_rule 8 rfl SpM_ok ?_
    simp only [wL0, wLc, true_and, w0, w71]
    exact fin
  · refine b3N (by decide) ?_
    refine PW_blk okM_rule 4 rfl SpM_ok ?_
    simp only [wL0, wLc, true_and, w1, lg0, lgi, lgr, lgl, w0, w79]
    refine b3N (by decide) ?_
    refine PW_blk okM_rule 6 rfl SpM_ok ?_
    simp only [wL0, wLc, true_and, w1, lg0, lgi, lgr, lgl, w0, w79]
    refine b3N (by decide) ?_
    refine PW_blk okM_rule 8 rfl SpM_ok ?_
    simp only [wL0, wLc, true_and, w0, w71]
    exact fin
theorem R_on {l : Int32} (hI : Inv (σ.1 1)) (h1 : ¬ hasL (σ.1 1) l → K (some (.int (-1000001))) (noS σ 0)) (h2 : ∀ k, k < nv (σ.1 1) 3 → l = nI k → K (some (.int (if (nv (σ.1 1) 2).testBit k then 1 else 0))) (sr σ 1 (upd (σ.1 1) 2 (nI (dif (nv (σ.1 1) 2) (2 ^ k)))))) : Rn 1 ev mM_on [.ref 0, .int l] σ K := by
  have hG := hI.2.1.1
  have hn := hI.1.2
  have hlt : nv (σ.1 1) 2 < 1024 := by have := hG.2; omega
  refine Rn_V (by decide) rc6 rfl rfl ?_
  refine PW_blk okM_on 0 rfl SpM_ok ?_
  simp only [wL0, wLc, true_and, w2, lg0, lgi, lgr, lgl, w1, w54_2, q40, q41, q42, q43, q44, Option.toList_some, Option.toList_none, List.cons_append, List.nil_append, sp_isLock, w73]
  by_cases hl : hasL (σ.1 1) l
  rotate_left
  · refine dN (in1LN hI.1 hl) ?_
    refine PW_blk okM_on 1 rfl SpM_ok ?_
    simp only [wL0, wLc, true_and, w2, lg0, lgi, lgr, lgl, w0, w54_2, q40, q41, q42, q43, q44, Option.toList_some, Option.toList_none, List.cons_append, List.nil_append, sp_no, v7_0, v7_1, v7_2, v7_3, v7_4, v7_5, v7_6, w84]
    exact h1 hl
  refine dY (in1LY hI.1 hl) ?_
  obtain ⟨k, hk, rfl⟩ := hl
  have hkk := h2 k hk rfl
  refine PW_blk okM_on 2 rfl SpM_ok ?_
  simp only [wL0, wLc, true_and, w2, lg0, lgi, lgr, lgl, w35, kM0, rM0, kM1, nM1, w0, w39, w4, ls00, ls0i, ls0r, ls0l, lsi, lsr, lsl, Option.map_some, w10i, w10r, w1, w19, w18, w16, w40, tn1, vi1_120, tn2, vi2_120, w79, si_is, sr1, updS]
  rw [nI_sh1 k (by omega), hG.1, dif_I, nI_eq_iff (by omega) (by have := dif_le (nv (σ.1 1) 2) (2 ^ k); omega), eq_comm, dif_self (by omega)]
  by_cases hb : (nv (σ.1 1) 2).testBit k = true
  · rw [if_pos hb] at hkk
    refine b3N (by rw [hb]; decide) ?_
    refine PW_blk okM_on 4 rfl SpM_ok ?_
    simp only [wL0, wLc, true_and, w0, w71]
    refine PW_blk okM_on 5 rfl SpM_ok ?_
    simp only [wL0, w84]
    exact hkk
  · rw [if_neg hb] at hkk
    refine b3Y (by simpa using hb) ?_
    refine PW_blk okM_on 3 rfl SpM_ok ?_
    simp only [wL0, wLc, true_and, w0, w70]
    refine PW_blk okM_on 5 rfl SpM_ok ?_
    simp only [wL0, w84]
    exact hkk
theorem R_shut (hI : Inv (σ.1 1)) (hk : K (some (.int (nI (pcn (nv (σ.1 1) 2))))) (sr σ 1 (upd (upd (upd (σ.1 1) 2 0) 0 0) 1 0))) : Rn 1 ev mM_shut [.ref 0] σ K := by
  have hG := hI.2.1.1
  have hlt : nv (σ.1 1) 2 < 1024 := by have := hG.2; omega
  refine Rn_V (by decide) rc6 rfl rfl ?_
  refine PW_blk okM_shut 0 rfl SpM_ok ?_
  simp only [wL0, wLc, true_and, w2, lg0, lgi, lgr, lgl, w35, kM0, rM0, kM1, nM1, w0, w39, w55_1, q40, q41, q42, q43, q44, Option.toList_some, Option.toList_none, List.cons_append, List.nil_append, w4, ls00, ls0i, ls0r, ls0l, lsi, lsr, lsl, Option.map_some, w40, w1, tn0, vi0_120, tn1, vi1_120, tn2, vi2_120, w84, hG.1]
  refine R_bits hlt ?_
  simp only [wL0, wLc, true_and, w2, lg0, lgi, lgr, lgl, w35, kM0, rM0, kM1, nM1, w0, w39, w55_1, q40, q41, q42, q43, q44, Option.toList_some, Option.toList_none, List.cons_append, List.nil_append, w4, ls00, ls0i, ls0r, ls0l, lsi, lsr, lsl, Option.map_some, w40, w1, tn0, vi0_120, tn1, vi1_120, tn2, vi2_120, w84, si_is, sr1, sr_sr]
  exact hk
theorem R_may (hI : Inv (σ.1 1)) (hk : K (some (.int (nI (mayN (σ.1 1) (nv (σ.1 1) 2))))) σ) : Rn 1 ev mM_may [.ref 0] σ K := by
  have hG := hI.2.1.1
  have hlt : nv (σ.1 1) 2 < 1024 := by have := hG.2; omega
  refine Rn_V (by decide) rc6 rfl rfl ?_
  refine PW_blk okM_may 0 rfl SpM_ok ?_
  simp only [wL0, wLc, true_and, w2, lg0, lgi, lgr, lgl, w35, kM0, rM0, kM1, nM1, w0, w39, w54_2, q40, q41, q42, q43, q44, Option.toList_some, Option.toList_none, List.cons_append, List.nil_append, tn2, vi2_120, w84, hG.1]
  refine R_mayBy hI hlt ?_
  simp only [wL0, wLc, true_and, w2, lg0, lgi, lgr, lgl, w35, kM0, rM0, kM1, nM1, w0, w39, w54_2, q40, q41, q42, q43, q44, Option.toList_some, Option.toList_none, List.cons_append, List.nil_append, tn2, vi2_120, w84]
  exact hk
theorem R_why {l : Int32} (hI : Inv (σ.1 1)) (h1 : ¬ hasL (σ.1 1) l → K (some (.int (-1000001))) (noS σ 0)) (h2 : ∀ k, k < nv (σ.1 1) 3 → l = nI k → K (some (.int (whyF (σ.1 1) k (nv (σ.1 1) 2) (nI (slackN (σ.1 1) (nv (σ.1 1) 2))) (nI (hdN (σ.1 1) (nv (σ.1 1) 2)))))) σ) : Rn 1 ev mM_why [.ref 0, .int l] σ K := by
  have hG := hI.2.1.1
  have hlt : nv (σ.1 1) 2 < 1024 := by have := hG.2; omega
  refine Rn_V (by decide) rc6 rfl rfl ?_
  refine PW_blk okM_why 0 rfl SpM_ok ?_
  simp only [wL0, wLc, true_and, w2, lg0, lgi, lgr, lgl, w1, w54_2, q40, q41, q42, q43, q44, Option.toList_some, Option.toList_none, List.cons_append, List.nil_append, sp_isLock, w72]
  by_cases hl : hasL (σ.1 1) l
  rotate_left
  · refine bN (in1LN hI.1 hl) ?_
    refine PW_blk okM_why 2 rfl SpM_ok ?_
    simp only [wL0, wLc, true_and, w2, lg0, lgi, lgr, lgl, w0, w54_2, q40, q41, q42, q43, q44, Option.toList_some, Option.toList_none, List.cons_append, List.nil_append, sp_no, v7_0, v7_1, v7_2, v7_3, v7_4, v7_5, v7_6, w71]
    refine PW_blk okM_why 3 rfl SpM_ok ?_
    simp only [wL0, w84]
    exact h1 hl
  refine bY (in1LY hI.1 hl) ?_
  obtain ⟨k, hk, rfl⟩ := hl
  refine PW_blk okM_why 1 rfl SpM_ok ?_
  simp only [wL0, wLc, true_and, w2, lg0, lgi, lgr, lgl, w1, w35, kM0, rM0, kM1, nM1, w0, w39, w54_2, q40, q41, q42, q43, q44, Option.toList_some, Option.toList_none, List.cons_append, List.nil_append, w54_5, tn2, vi2_120, w70, hG.1]
  refine R_slackBy hI hlt ?_
  simp only [wL0, wLc, true_and, w2, lg0, lgi, lgr, lgl, w1, w35, kM0, rM0, kM1, nM1, w0, w39, w54_2, q40, q41, q42, q43, q44, Option.toList_some, Option.toList_none, List.cons_append, List.nil_append, w54_5, tn2, vi2_120, w70, hG.1]
  refine R_freeBy hI hlt ?_
  simp only [wL0, wLc, true_and, w2, lg0, lgi, lgr, lgl, w1, w35, kM0, rM0, kM1, nM1, w0, w39, w54_2, q40, q41, q42, q43, q44, Option.toList_some, Option.toList_none, List.cons_append, List.nil_append, w54_5, tn2, vi2_120, w70]
  refine R_whyBy hI hlt (by have := frN_lt (σ.1 1) (nv (σ.1 1) 2); omega) hk ?_
  simp only [wL0, wLc, true_and, w2, lg0, lgi, lgr, lgl, w1, w35, kM0, rM0, kM1, nM1, w0, w39, w54_2, q40, q41, q42, q43, q44, Option.toList_some, Option.toList_none, List.cons_append, List.nil_append, w54_5, tn2, vi2_120, w70]
  refine PW_blk okM_why 3 rfl SpM_ok ?_
  simp only [wL0, w84]
  exact h2 k hk rfl
theorem R_comesOff {k : Nat} (hI : Inv (σ.1 1)) (hkn : k < nv (σ.1 1) 3) (hk : K none (sr σ 1 (stS (σ.1 1) k))) : Rn 1 ev mM_comesOff [.ref 0, .int (nI k)] σ K := by
  refine Rn_V (by decide) rc6 rfl rfl ?_
  refine PW_blk okM_comesOff 0 rfl SpM_ok ?_
  simp only [wL0, wLc, true_and, w2, lg0, lgi, lgr, lgl, w1, w54_2, q40, q41, q42, q43, q44, Option.toList_some, Option.toList_none, List.cons_append, List.nil_append, w4, ls00, ls0i, ls0r, ls0l, lsi, lsr, lsl, Option.map_some, w35, kM0, rM0, kM1, nM1, w0, w10i, w10r, w39, sp_doesPlay, tn0, vi0_120, tn1, vi1_120, w72]
  refine R_takesNow hI hkn ?_
  simp only [wL0, wLc, true_and, w2, lg0, lgi, lgr, lgl, w1, w54_2, q40, q41, q42, q43, q44, Option.toList_some, Option.toList_none, List.cons_append, List.nil_append, w4, ls00, ls0i, ls0r, ls0l, lsi, lsr, lsl, Option.map_some, w35, kM0, rM0, kM1, nM1, w0, w10i, w10r, w39, sp_doesPlay, tn0, vi0_120, tn1, vi1_120, w72]
  unfold stS at hk
  rcases plF_01 (σ.1 1 7) (σ.1 1 8) (σ.1 1 0) with h | h
  · rw [if_pos h] at hk
    refine bN h ?_
    refine PW_blk okM_comesOff 2 rfl SpM_ok ?_
    simp only [wL0, wLc, true_and, w2, lg0, lgi, lgr, lgl, w1, w54_2, q40, q41, q42, q43, q44, Option.toList_some, Option.toList_none, List.cons_append, List.nil_append, w71]
    refine R_soundsOf hI hkn ?_
    simp only [wL0, wLc, true_and, w2, lg0, lgi, lgr, lgl, w1, w54_2, q40, q41, q42, q43, q44, Option.toList_some, Option.toList_none, List.cons_append, List.nil_append, w71]
    refine PW_blk okM_comesOff 3 rfl SpM_ok ?_
    simp only [wL0, wLc, true_and, w11, w40, w2, lg0, lgi, lgr, lgl, w35, kM0, rM0, kM1, nM1, w0, w10i, w10r, w39, w1, w19, w17, tn0, vi0_120, tn1, vi1_120, tn2, vi2_120, w87, si_is, sr1, sr_sr, updI, if_false, if_true]
    exact hk
  · rw [if_neg (by rw [h]; decide)] at hk
    refine bY h ?_
    refine PW_blk okM_comesOff 1 rfl SpM_ok ?_
    simp only [wL0, wLc, true_and, w0, w70]
    refine PW_blk okM_comesOff 3 rfl SpM_ok ?_
    simp only [wL0, wLc, true_and, w11, w40, w2, lg0, lgi, lgr, lgl, w35, kM0, rM0, kM1, nM1, w0, w10i, w10r, w39, w1, w19, w17, tn0, vi0_120, tn1, vi1_120, tn2, vi2_120, w87, si_is, sr1, sr_sr, updI, if_false, if_true]
    exact hk
theorem R_off {l : Int32} (hI : Inv (σ.1 1)) (h1 : ¬ hasL (σ.1 1) l → K (some (.int (-1000001))) (noS σ 0)) (h2 : ∀ k, k < nv (σ.1 1) 3 → l = nI k → ¬ (mayok (σ.1 1) k (nv (σ.1 1) 2) ∧ nv (σ.1 1) 0 + takesN (σ.1 1) k (nv (σ.1 1) 2) ≤ 99999) → K (some (.int (-1000005))) (noS σ 4)) (h3 : ∀ k, k < nv (σ.1 1) 3 → l = nI k → mayok (σ.1 1) k (nv (σ.1 1) 2) → nv (σ.1 1) 0 + takesN (σ.1 1) k (nv (σ.1 1) 2) ≤ 99999 → K (some (.int (nI (takesN (σ.1 1) k (nv (σ.1 1) 2))))) (sr σ 1 (stS (σ.1 1) k))) : Rn 1 ev mM_off [.ref 0, .int l] σ K := by
  have hG := hI.2.1.1
  have hn := hI.1.2
  have hC := hI.2.2.1
  have hlt : nv (σ.1 1) 2 < 1024 := by have := hG.2; omega
  refine Rn_V (by decide) rc6 rfl rfl ?_
  refine PW_blk okM_off 0 rfl SpM_ok ?_
  simp only [wL0, wLc, true_and, w2, lg0, lgi, lgr, lgl, w1, w54_2, q40, q41, q42, q43, q44, Option.toList_some, Option.toList_none, List.cons_append, List.nil_append, sp_isLock, w73]
  by_cases hl : hasL (σ.1 1) l
  rotate_left
  · refine dN (in1LN hI.1 hl) ?_
    refine PW_blk okM_off 1 rfl SpM_ok ?_
    simp only [wL0, wLc, true_and, w2, lg0, lgi, lgr, lgl, w0, w54_2, q40, q41, q42, q43, q44, Option.toList_some, Option.toList_none, List.cons_append, List.nil_append, sp_no, v7_0, v7_1, v7_2, v7_3, v7_4, v7_5, v7_6, w84]
    exact h1 hl
  refine dY (in1LY hI.1 hl) ?_
  obtain ⟨k, hk, rfl⟩ := hl
  have ht := takes_le hI (o := nv (σ.1 1) 2) hk
  refine PW_blk okM_off 2 rfl SpM_ok ?_
  simp only [wL0, wLc, true_and, w2, lg0, lgi, lgr, lgl, w1, w54_2, q40, q41, q42, q43, q44, Option.toList_some, Option.toList_none, List.cons_append, List.nil_append, w4, ls00, ls0i, ls0r, ls0l, lsi, lsr, lsl, Option.map_some, w35, kM0, rM0, kM1, nM1, w0, w39, w55_2, sp_isIn, tn2, vi2_120, w72, hG.1]
  refine R_takesNow hI hk ?_
  simp only [wL0, wLc, true_and, w2, lg0, lgi, lgr, lgl, w1, w54_2, q40, q41, q42, q43, q44, Option.toList_some, Option.toList_none, List.cons_append, List.nil_append, w4, ls00, ls0i, ls0r, ls0l, lsi, lsr, lsl, Option.map_some, w35, kM0, rM0, kM1, nM1, w0, w39, w55_2, sp_isIn, tn2, vi2_120, w72, hG.1]
  refine R_mayBy hI hlt ?_
  simp only [wL0, wLc, true_and, w2, lg0, lgi, lgr, lgl, w1, w54_2, q40, q41, q42, q43, q44, Option.toList_some, Option.toList_none, List.cons_append, List.nil_append, w4, ls00, ls0i, ls0r, ls0l, lsi, lsr, lsl, Option.map_some, w35, kM0, rM0, kM1, nM1, w0, w39, w55_2, sp_isIn, tn2, vi2_120, w72]
  have hm := mayN_lt (σ.1 1) (nv (σ.1 1) 2)
  have hp := p2le _ hn
  rw [isInF_n (by omega) (by omega)]
  by_cases hb : (mayN (σ.1 1) (nv (σ.1 1) 2)).testBit k = true
  rotate_left
  · refine bN (if_neg hb) ?_
    refine PW_blk okM_off 4 rfl SpM_ok ?_
    simp only [wL0, wLc, true_and, w2, lg0, lgi, lgr, lgl, w0, w54_2, q40, q41, q42, q43, q44, Option.toList_some, Option.toList_none, List.cons_append, List.nil_append, sp_no, v7_0, v7_1, v7_2, v7_3, v7_4, v7_5, v7_6, w84]
    exact h2 k hk rfl (fun z => hb (mayN_bit.mpr ⟨hk, z.1⟩))
  have hmk := (mayN_bit.mp hb).2
  refine bY (if_pos hb) ?_
  refine PW_blk okM_off 3 rfl SpM_ok ?_
  simp only [wL0, wLc, true_and, w2, lg0, lgi, lgr, lgl, w35, kM0, rM0, kM1, nM1, w0, w39, w1, w11, tn0, vi0_120, w83, hC.1]
  have hC2 := hC.2
  rw [nI_add, show (99999 : Int32) = nI 99999 from rfl, nI_lt_iff (by decide) (by omega)]
  by_cases hc : 99999 < nv (σ.1 1) 0 + takesN (σ.1 1) k (nv (σ.1 1) 2)
  · refine b3Y hc ?_
    refine PW_blk okM_off 4 rfl SpM_ok ?_
    simp only [wL0, wLc, true_and, w2, lg0, lgi, lgr, lgl, w0, w54_2, q40, q41, q42, q43, q44, Option.toList_some, Option.toList_none, List.cons_append, List.nil_append, sp_no, v7_0, v7_1, v7_2, v7_3, v7_4, v7_5, v7_6, w84]
    exact h2 k hk rfl (fun z => by have := z.2; omega)
  · refine b3N hc ?_
    refine PW_blk okM_off 5 rfl SpM_ok ?_
    simp only [wL0, wLc, true_and, w2, lg0, lgi, lgr, lgl, w1, w54_2, q40, q41, q42, q43, q44, Option.toList_some, Option.toList_none, List.cons_append, List.nil_append, w84]
    refine R_comesOff hI hk ?_
    simp only [wL0, wLc, true_and, w2, lg0, lgi, lgr, lgl, w1, w54_2, q40, q41, q42, q43, q44, Option.toList_some, Option.toList_none, List.cons_append, List.nil_append, w84]
    exact h3 k hk rfl hmk (by omega)
theorem R_now {what : Int32} (hI : Inv (σ.1 1)) (h1 : ¬ rgI what 0 6 → K (some (.int (-1000001))) (noS σ 0)) (h2 : ∀ w, w ≤ 6 → what = nI w → K (some (.int (nowF (σ.1 1) w))) σ) : Rn 1 ev mM_now [.ref 0, .int what] σ K := by
  have hG := hI.2.1.1
  have hlt : nv (σ.1 1) 2 < 1024 := by have := hG.2; omega
  refine Rn_V (by decide) rc6 rfl rfl ?_
  refine PW_blk okM_now 0 rfl SpM_ok ?_
  simp only [wL0, wLc, true_and, w1, lg0, lgi, lgr, lgl, w90, wS0, wSc]
  by_cases hw : rgI what 0 6
  rotate_left
  · have hw' := h1 hw
    refine ⟨fun h => absurd ⟨0, by decide, by decide, h⟩ hw, fun _ => ?_⟩
    refine ⟨fun h => absurd ⟨1, by decide, by decide, h⟩ hw, fun _ => ?_⟩
    refine ⟨fun h => absurd ⟨2, by decide, by decide, h⟩ hw, fun _ => ?_⟩
    refine ⟨fun h => absurd ⟨3, by decide, by decide, h⟩ hw, fun _ => ?_⟩
    refine ⟨fun h => absurd ⟨4, by decide, by decide, h⟩ hw, fun _ => ?_⟩
    refine ⟨fun h => absurd ⟨5, by decide, by decide, h⟩ hw, fun _ => ?_⟩
    refine ⟨fun h => absurd ⟨6, by decide, by decide, h⟩ hw, fun _ => ?_⟩
    refine PW_blk okM_now 14 rfl SpM_ok ?_
    simp only [wL0, wLc, true_and, w2, lg0, lgi, lgr, lgl, w0, w54_2, q40, q41, q42, q43, q44, Option.toList_some, Option.toList_none, List.cons_append, List.nil_append, sp_no, v7_0, v7_1, v7_2, v7_3, v7_4, v7_5, v7_6, w84]
    exact hw'
  obtain ⟨w, -, hw, rfl⟩ := hw
  have hkk := h2 w hw rfl
  rcases (show w = 0 ∨ w = 1 ∨ w = 2 ∨ w = 3 ∨ w = 4 ∨ w = 5 ∨ w = 6 by omega) with rfl | rfl | rfl | rfl | rfl | rfl | rfl
  · refine ⟨fun _ => ?_, fun h => absurd rfl h⟩
    refine PW_blk okM_now 1 rfl SpM_ok ?_
    simp only [wL0, wLc, true_and, w2, lg0, lgi, lgr, lgl, w35, kM0, rM0, kM1, nM1, w0, w39, tn0, vi0_120, w84]
    exact hkk
  · refine ⟨fun h => absurd h (by decide), fun _ => ?_⟩
    refine ⟨fun _ => ?_, fun h => absurd rfl h⟩
    refine PW_blk okM_now 2 rfl SpM_ok ?_
    simp only [wL0, wLc, true_and, w2, lg0, lgi, lgr, lgl, w35, kM0, rM0, kM1, nM1, w0, w39, tn1, vi1_120, w84]
    exact hkk
  · refine ⟨fun h => absurd h (by decide), fun _ => ?_⟩
    refine ⟨fun h => absurd h (by decide), fun _ => ?_⟩
    refine ⟨fun _ => ?_, fun h => absurd rfl h⟩
    refine PW_blk okM_now 3 rfl SpM_ok ?_
    simp only [wL0, wLc, true_and, w2, lg0, lgi, lgr, lgl, w35, kM0, rM0, kM1, nM1, w0, w39, tn2, vi2_120, w84]
    exact hkk
  · refine ⟨fun h => absurd h (by decide), fun _ => ?_⟩
    refine ⟨fun h => absurd h (by decide), fun _ => ?_⟩
    refine ⟨fun h => absurd h (by decide), fun _ => ?_⟩
    refine ⟨fun _ => ?_, fun h => absurd rfl h⟩
    refine PW_blk okM_now 4 rfl SpM_ok ?_
    simp only [wL0, wLc, true_and, w2, lg0, lgi, lgr, lgl, w35, kM0, rM0, kM1, nM1, w0, w39, w54_2, q40, q41, q42, q43, q44, Option.toList_some, Option.toList_none, List.cons_append, List.nil_append, tn2, vi2_120, w84, hG.1]
    refine R_slackBy hI hlt ?_
    simp only [wL0, wLc, true_and, w2, lg0, lgi, lgr, lgl, w35, kM0, rM0, kM1, nM1, w0, w39, w54_2, q40, q41, q42, q43, q44, Option.toList_some, Option.toList_none, List.cons_append, List.nil_append, tn2, vi2_120, w84]
    exact hkk
  · refine ⟨fun h => absurd h (by decide), fun _ => ?_⟩
    refine ⟨fun h => absurd h (by decide), fun _ => ?_⟩
    refine ⟨fun h => absurd h (by decide), fun _ => ?_⟩
    refine ⟨fun h => absurd h (by decide), fun _ => ?_⟩
    refine ⟨fun _ => ?_, fun h => absurd rfl h⟩
    refine PW_blk okM_now 5 rfl SpM_ok ?_
    simp only [wL0, wLc, true_and, w2, lg0, lgi, lgr, lgl, w35, kM0, rM0, kM1, nM1, w0, w39, w54_2, q40, q41, q42, q43, q44, Option.toList_some, Option.toList_none, List.cons_append, List.nil_append, tn2, vi2_120, w84, hG.1]
    refine R_freeBy hI hlt ?_
    simp only [wL0, wLc, true_and, w2, lg0, lgi, lgr, lgl, w35, kM0, rM0, kM1, nM1, w0, w39, w54_2, q40, q41, q42, q43, q44, Option.toList_some, Option.toList_none, List.cons_append, List.nil_append, tn2, vi2_120, w84]
    exact hkk
  · refine ⟨fun h => absurd h (by decide), fun _ => ?_⟩
    refine ⟨fun h => absurd h (by decide), fun _ => ?_⟩
    refine ⟨fun h => absurd h (by decide), fun _ => ?_⟩
    refine ⟨fun h => absurd h (by decide), fun _ => ?_⟩
    refine ⟨fun h => absurd h (by decide), fun _ => ?_⟩
    refine ⟨fun _ => ?_, fun h => absurd rfl h⟩
    have hkk : K (some (.int (outF (σ.1 1 6) (σ.1 1 2)))) σ := hkk
    refine PW_blk okM_now 6 rfl SpM_ok ?_
    simp only [wL0, wLc, true_and, w2, lg0, lgi, lgr, lgl, w35, kM0, rM0, kM1, nM1, w0, w39, w54_2, q40, q41, q42, q43, q44, Option.toList_some, Option.toList_none, List.cons_append, List.nil_append, sp_isOut, tn2, vi2_120, w72]
    rcases (show outF (σ.1 1 6) (σ.1 1 2) = 0 ∨ outF (σ.1 1 6) (σ.1 1 2) = 1 from b01) with h | h
    · rw [h] at hkk
      refine bN h ?_
      refine PW_blk okM_now 8 rfl SpM_ok ?_
      simp only [wL0, wLc, true_and, w0, w71]
      refine PW_blk okM_now 9 rfl SpM_ok ?_
      simp only [wL0, w84]
      exact hkk
    · rw [h] at hkk
      refine bY h ?_
      refine PW_blk okM_now 7 rfl SpM_ok ?_
      simp only [wL0, wLc, true_and, w0, w70]
      refine PW_blk okM_now 9 rfl SpM_ok ?_
      simp only [wL0, w84]
      exact hkk
  · refine ⟨fun h => absurd h (by decide), fun _ => ?_⟩
    refine ⟨fun h => absurd h (by decide), fun _ => ?_⟩
    refine ⟨fun h => absurd h (by decide), fun _ => ?_⟩
    refine ⟨fun h => absurd h (by decide), fun _ => ?_⟩
    refine ⟨fun h => absurd h (by decide), fun _ => ?_⟩
    refine ⟨fun h => absurd h (by decide), fun _ => ?_⟩
    refine ⟨fun _ => ?_, fun h => absurd rfl h⟩
    have hkk : K (some (.int (plF (σ.1 1 7) (σ.1 1 8) (σ.1 1 0)))) σ := hkk
    refine PW_blk okM_now 10 rfl SpM_ok ?_
    simp only [wL0, wLc, true_and, w2, lg0, lgi, lgr, lgl, w35, kM0, rM0, kM1, nM1, w0, w39, w54_2, q40, q41, q42, q43, q44, Option.toList_some, Option.toList_none, List.cons_append, List.nil_append, sp_doesPlay, tn0, vi0_120, w72]
    rcases plF_01 (σ.1 1 7) (σ.1 1 8) (σ.1 1 0) with h | h
    · rw [h] at hkk
      refine bN h ?_
      refine PW_blk okM_now 12 rfl SpM_ok ?_
      simp only [wL0, wLc, true_and, w0, w71]
      refine PW_blk okM_now 13 rfl SpM_ok ?_
      simp only [wL0, w84]
      exact hkk
    · rw [h] at hkk
      refine bY h ?_
      refine PW_blk okM_now 11 rfl SpM_ok ?_
      simp only [wL0, wLc, true_and, w0, w70]
      refine PW_blk okM_now 13 rfl SpM_ok ?_
      simp only [wL0, w84]
      exact hkk
theorem R_costs {b k o : Nat} (hI : Inv (σ.1 1)) (ho : o < 1024) (hb : b ≤ 2) (hkn : k < nv (σ.1 1) 3) (hk : K (some (.int (nI (costN (σ.1 1) b k o)))) σ) : Rn 1 ev mM_costs [.ref 0, .int (nI b), .int (nI k), .int (nI o), .int (nI (slackN (σ.1 1) o)), .int (nI (frN (σ.1 1) o))] σ K := by
  unfold costN at hk
  refine Rn_V (by decide) rc6 rfl rfl ?_
  refine PW_blk okM_costs 0 rfl SpM_ok ?_
  simp only [wL0, wLc, true_and, w1, lg0, lgi, lgr, lgl, w73]
  rcases (show b = 0 ∨ b = 1 ∨ b = 2 by omega) with rfl | rfl | rfl
  · rw [if_pos rfl] at hk
    refine b3Y rfl ?_
    refine PW_blk okM_costs 1 rfl SpM_ok ?_
    simp only [wL0, wLc, true_and, w2, lg0, lgi, lgr, lgl, w1, w54_5, q40, q41, q42, q43, q44, Option.toList_some, Option.toList_none, List.cons_append, List.nil_append, w70]
    refine R_takesBy hI ho hkn ?_
    simp only [wL0, wLc, true_and, w2, lg0, lgi, lgr, lgl, w1, w54_5, q40, q41, q42, q43, q44, Option.toList_some, Option.toList_none, List.cons_append, List.nil_append, w70]
    refine PW_blk okM_costs 5 rfl SpM_ok ?_
    simp only [wL0, w84]
    exact hk
  · rw [if_neg (by decide), if_pos rfl] at hk
    refine b3N (by decide) ?_
    refine PW_blk okM_costs 2 rfl SpM_ok ?_
    simp only [wL0, wLc, true_and, w1, lg0, lgi, lgr, lgl, w0, w79]
    refine b3Y rfl ?_
    refine PW_blk okM_costs 3 rfl SpM_ok ?_
    simp only [wL0, wLc, true_and, w2, lg0, lgi, lgr, lgl, w1, w54_2, q40, q41, q42, q43, q44, Option.toList_some, Option.toList_none, List.cons_append, List.nil_append, w70]
    refine R_soundsOf hI hkn ?_
    simp only [wL0, wLc, true_and, w2, lg0, lgi, lgr, lgl, w1, w54_2, q40, q41, q42, q43, q44, Option.toList_some, Option.toList_none, List.cons_append, List.nil_append, w70]
    refine PW_blk okM_costs 5 rfl SpM_ok ?_
    simp only [wL0, w84]
    exact hk
  · rw [if_neg (by decide), if_neg (by decide)] at hk
    refine b3N (by decide) ?_
    refine PW_blk okM_costs 2 rfl SpM_ok ?_
    simp only [wL0, wLc, true_and, w1, lg0, lgi, lgr, lgl, w0, w79]
    refine b3N (by decide) ?_
    refine PW_blk okM_costs 4 rfl SpM_ok ?_
    simp only [wL0, wLc, true_and, w0, w71]
    refine PW_blk okM_costs 5 rfl SpM_ok ?_
    simp only [wL0, w84]
    exact hk
end MC
