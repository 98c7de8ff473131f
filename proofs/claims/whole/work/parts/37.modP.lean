/-! feed, wipe, spots, sheets, images, count, status -/
def fdU (T : Nat → Int32) (τ : Nat) (b : Int32) (n : Nat) : Nat → Nat → Int32
  | 0 => T
  | i + 1 => upd (fdU T τ b n i) (τ + i) ((b >>> (nI (8 * (n - 1 - i)) &&& 31)) &&& 255)
theorem c80 {σ : St2} {r q r' : Nat → Int32} : sr (sr (sr σ 8 r) 0 q) 8 r' = sr (sr σ 8 r') 0 q := by rw [sr_comm (k := 0) (k' := 8) (by decide), sr_sr]
def upF (s : Nat) : Nat := if s = 5 then 1 else if s = 4 then 3 else if s = 3 then 2 else 0
def isU : Nat → Nat → Nat → Bool
  | 0, s, k => s == k
  | f + 1, s, k => s == k || (s != 0 && isU f (upF s) k)
theorem isU_s : ∀ s, s < 7 → ∀ k, k < 7 → s ≠ 0 → s ≠ k → isU 3 s k = isU 3 (upF s) k := by decide +kernel
theorem isU_e : ∀ k, k < 7 → isU 3 k k = true := by decide +kernel
theorem isU_0 : ∀ k, k < 7 → k ≠ 0 → isU 3 0 k = false := by decide +kernel
theorem abF_n : ∀ s, s < 7 → abF (nI s) = nI (upF s) := by decide +kernel
def nrw (w v : Int32) : Int32 := if w = 8 then v.toInt8.toInt32 else if w = 16 then v.toInt16.toInt32 else v
def clC (C : Nat → Int32) (a n : Nat) : Nat → Int32 := fun q => if a ≤ q ∧ q < a + n then 0 else C q
theorem clC_0 {C : Nat → Int32} {a : Nat} : clC C a 0 = C := by
  funext q
  unfold clC
  rw [if_neg (by omega)]
theorem clC_s {C : Nat → Int32} {a n : Nat} : upd (clC C a n) (a + n) 0 = clC C a (n + 1) := by
  funext q
  rw [updI]
  by_cases h : q = a + n
  · rw [if_pos h]
    unfold clC
    rw [if_pos (by omega)]
  · rw [if_neg h]
    unfold clC
    by_cases h2 : a ≤ q ∧ q < a + n
    · rw [if_pos h2, if_pos (by omega)]
    · rw [if_neg h2, if_neg (by omega)]
/-- n of D, from d on, laid into C from a on -/
def cpC (C D : Nat → Int32) (a d n : Nat) : Nat → Int32 := fun q => if a ≤ q ∧ q < a + n then D (d + (q - a)) else C q
theorem cpC_0 {C D : Nat → Int32} {a d : Nat} : cpC C D a d 0 = C := by
  funext q
  unfold cpC
  rw [if_neg (by omega)]
theorem cpC_s {C D : Nat → Int32} {a d n : Nat} : upd (cpC C D a d n) (a + n) (D (d + n)) = cpC C D a d (n + 1) := by
  funext q
  rw [updI]
  by_cases h : q = a + n
  · rw [if_pos h]
    unfold cpC
    rw [if_pos (by omega), show d + (q - a) = d + n by omega]
  · rw [if_neg h]
    unfold cpC
    by_cases h2 : a ≤ q ∧ q < a + n
    · rw [if_pos h2, if_pos (by omega)]
    · rw [if_neg h2, if_neg (by omega)]
def okL (S N C : Nat → Int32) (j n : Nat) : Prop := n < nv N j ∧ n < nv S 3 ∧ rgI (C (40 * j + n)) 1 60
def ldS (S C : Nat → Int32) (j : Nat) : Nat → Nat → Int32
  | 0 => S
  | i + 1 => upd (ldS S C j i) (tr i 1) (C (40 * j + i))
def jdU (C : Nat → Int32) (j o : Nat) : Nat → Nat
  | 0 => o
  | i + 1 => jdU C j o i ||| 2 ^ (C (40 * j + i)).toNatClampNeg
def okJ (S N C : Nat → Int32) (j n : Nat) : Prop := n < nv N j ∧ ∃ k, k < nv S 3 ∧ C (40 * j + n) = nI k ∧ (mayN S (jdU C j (nv S 2) n)).testBit k = true
def fsU (F : Nat → Int32) : Nat → Int32
  | 0 => 0
  | k + 1 => fsU F k + F k
theorem m1_ne {n : Nat} (h : n < 2147483648) : ¬ nI n = -1 := by
  intro e
  have h2 := nI_toInt (n := n) h
  rw [e, show (-1 : Int32).toInt = -1 from by decide] at h2
  omega
theorem lt0 {n : Nat} (h : n < 2147483648) : ¬ nI n < 0 := nI_nlt (a := n) (b := 0) (Nat.zero_le _) h
theorem ge0 {v : Int32} (h : ¬ v < 0) : ∃ n, n < 2147483648 ∧ v = nI n := by
  rw [fa_lt, show (0 : Int32).toInt = 0 from by decide] at h
  have h2 := Int32.toInt_lt v
  obtain ⟨n, -, h3, h4⟩ := rgI_toInt (v := v) (a := 0) (m := 2147483647) (by omega) (by omega)
  exact ⟨n, by omega, h4⟩
theorem sub_lt {a n c : Nat} (ha : a < 2147483648) (hn : n ≤ 40) (hc : c < 2147483648) : nI n - nI c < nI a ↔ n < a + c := by
  rw [fa_lt, nI_toInt ha, Int32.toInt_sub, nI_toInt (by omega), nI_toInt hc, Int.bmod_eq_of_le (by omega) (by omega)]
  omega
section MP
variable {ev : EV} {σ : St2} {K : PO}
theorem R_feed {b c : Int32} {τ : Nat} (ht : σ.1 0 11 = nI τ) (hτ : τ ≤ 120) (h1 : ¬ rgI c 1 4 → K (some (.int (-1000001))) (noS σ 0)) (h2 : ∀ n, 1 ≤ n → n ≤ 4 → c = nI n → 120 < τ + n → K (some (.int (-1000002))) (noS σ 1)) (h3 : ∀ n, 1 ≤ n → n ≤ 4 → c = nI n → τ + n ≤ 120 → K (some (.int (nI (τ + n)))) (sr (sr σ 8 (fdU (σ.1 8) τ b n n)) 0 (upd (σ.1 0) 11 (nI (τ + n))))) : Rn 1 ev mM_feed [.ref 0, .int b, .int c] σ K := by
  refine Rn_V (by decide) rc6 rfl rfl ?_
  refine PW_blk okM_feed 0 rfl SpM_ok ?_
  simp only [wL0, wLc, true_and, w1, lg0, lgi, lgr, lgl, w0, w55_3, q40, q41, q42, q43, q44, Option.toList_some, Option.toList_none, List.cons_append, List.nil_append, sp_in1, w73]
  by_cases hr : rgI c 1 4
  rotate_left
  · refine dN (in1N (a := 1) (by decide) (by decide) hr) ?_
    refine PW_blk okM_feed 1 rfl SpM_ok ?_
    simp only [wL0, wLc, true_and, w2, lg0, lgi, lgr, lgl, w0, w54_2, q40, q41, q42, q43, q44, Option.toList_some, Option.toList_none, List.cons_append, List.nil_append, sp_no, v7_0, v7_1, v7_2, v7_3, v7_4, v7_5, v7_6, w84]
    exact h1 hr
  refine dY (in1Y (a := 1) (by decide) hr) ?_
  obtain ⟨n, hn1, hn2, rfl⟩ := hr
  refine PW_blk okM_feed 2 rfl SpM_ok ?_
  simp only [wL0, wLc, true_and, w2, lg0, lgi, lgr, lgl, w33, kM0, w1, w11, w0, w83, ht]
  rw [nI_add, show (120 : Int32) = nI 120 from rfl, nI_lt_iff (by decide) (by omega)]
  by_cases hf : 120 < τ + n
  · refine b3Y hf ?_
    refine PW_blk okM_feed 3 rfl SpM_ok ?_
    simp only [wL0, wLc, true_and, w2, lg0, lgi, lgr, lgl, w0, w54_2, q40, q41, q42, q43, q44, Option.toList_some, Option.toList_none, List.cons_append, List.nil_append, sp_no, v7_0, v7_1, v7_2, v7_3, v7_4, v7_5, v7_6, w84]
    exact h2 n hn1 hn2 rfl hf
  refine b3N hf ?_
  refine PW_blk okM_feed 4 rfl SpM_ok ?_
  simp only [wL0, wLc, true_and, w1, lg0, lgi, lgr, lgl, w0, w12, w4, ls00, ls0i, ls0r, ls0l, lsi, lsr, lsl, Option.map_some, w71]
  have key := lp_up (n := n) (P := fun i => PW 1 ev mM_feed 36 [.ref 0, .int b, .int (nI n), .int (nI (n - i) - 1)] [] (sr (sr σ 8 (fdU (σ.1 8) τ b n i)) 0 (upd (σ.1 0) 11 (nI (τ + i)))) K) ?_ ?_ 0 (Nat.zero_le _)
  · have e : sr (sr σ 8 (fdU (σ.1 8) τ b n 0)) 0 (upd (σ.1 0) 11 (nI (τ + 0))) = σ := by
      rw [show fdU (σ.1 8) τ b n 0 = σ.1 8 from rfl, sr_self, Nat.add_zero, fa_upd_same ht, sr_self]
    rw [e] at key
    exact key
  · refine PW_blk okM_feed 5 rfl SpM_ok ?_
    simp only [wL0, wLc, true_and, w1, lg0, lgi, lgr, lgl, w74]
    refine b2Y (by rw [Nat.sub_self]; decide) ?_
    refine PW_blk okM_feed 7 rfl SpM_ok ?_
    simp only [wL0, wLc, true_and, w2, lg0, lgi, lgr, lgl, w33, kM0, w84, sr1, updS]
    exact h3 n hn1 hn2 rfl (by omega)
  · intro i hi ih
    obtain ⟨m, hm⟩ : ∃ m, n - i = m + 1 := ⟨n - i - 1, by omega⟩
    rw [hm, m1_s]
    refine PW_blk okM_feed 5 rfl SpM_ok ?_
    simp only [wL0, wLc, true_and, w1, lg0, lgi, lgr, lgl, w74]
    refine b2N (lt0 (by omega)) ?_
    have hv : vp_in (nI (τ + i)) 120 := vp_in_nI (by omega) (by decide)
    have cl : (nI (τ + i)).toNatClampNeg = τ + i := nI_clamp (by omega)
    have e1 : (1 : Int32) = nI 1 := rfl
    have e2 : n - (i + 1) = m := by omega
    have e3 : (b >>> ((8 : Int32) * nI m &&& 31)) &&& 255 = (b >>> (nI (8 * (n - 1 - i)) &&& 31)) &&& 255 := by
      rw [show (8 : Int32) = nI 8 from rfl, pk_mul, show n - 1 - i = m by omega]
    refine PW_blk okM_feed 6 rfl SpM_ok ?_
    simp only [wL0, wLc, true_and, w2, lg0, lgi, lgr, lgl, w35, kM0, rM10, kM8, nM8, w33, w1, w0, w13, w20, w16, w40, w8i, w8r, w11, w36, w7, ls00, ls0i, ls0r, ls0l, lsi, lsr, lsl, Option.map_some, tn1, tn8, w70, si_is, sr1, updS, n0_8, eq_true hv, cl, c80, sr_sr, e3, m1_add, fa_upd_twice]
    rw [e1, nI_add]
    rw [e2] at ih
    rw [← e1]
    exact ih
theorem R_wipe (hk : K (some (.int (σ.1 0 11))) (sr σ 0 (upd (σ.1 0) 11 0))) : Rn 1 ev mM_wipe [.ref 0] σ K := by
  refine Rn_V (by decide) rc6 rfl rfl ?_
  refine PW_blk okM_wipe 0 rfl SpM_ok ?_
  simp only [wL0, wLc, true_and, w2, lg0, lgi, lgr, lgl, w33, kM0, w4, ls00, ls0i, ls0r, ls0l, lsi, lsr, lsl, Option.map_some, w0, w36, w1, w84, si_is]
  exact hk
theorem R_hold {s l : Int32} (hI : Inv (σ.1 1)) (h1 : ¬ (rgI s 0 9 ∧ (l = -1 ∨ hasL (σ.1 1) l)) → K (some (.int (-1000001))) (noS σ 0)) (h2 : ∀ i, i ≤ 9 → s = nI i → (l = -1 ∨ hasL (σ.1 1) l) → K (some (.int 1)) (sr σ 1 (upd (σ.1 1) (110 + i) l))) : Rn 1 ev mM_hold [.ref 0, .int s, .int l] σ K := by
  refine Rn_V (by decide) rc6 rfl rfl ?_
  refine PW_blk okM_hold 0 rfl SpM_ok ?_
  simp only [wL0, wLc, true_and, w1, lg0, lgi, lgr, lgl, w55_1, q40, q41, q42, q43, q44, Option.toList_some, Option.toList_none, List.cons_append, List.nil_append, sp_isSpot, w72]
  by_cases hr : rgI s 0 9
  rotate_left
  · refine bN (in1N (a := 0) (by decide) (by decide) hr) ?_
    refine PW_blk okM_hold 3 rfl SpM_ok ?_
    simp only [wL0, wLc, true_and, w2, lg0, lgi, lgr, lgl, w0, w54_2, q40, q41, q42, q43, q44, Option.toList_some, Option.toList_none, List.cons_append, List.nil_append, sp_no, v7_0, v7_1, v7_2, v7_3, v7_4, v7_5, v7_6, w84]
    exact h1 (fun z => hr z.1)
  refine bY (in1Y (a := 0) (by decide) hr) ?_
  obtain ⟨i, -, hi, rfl⟩ := hr
  have ok : (l = -1 ∨ hasL (σ.1 1) l) → PW 1 ev mM_hold 26 [.ref 0, .int (nI i), .int l] [] σ K := by
    intro h
    refine PW_blk okM_hold 4 rfl SpM_ok ?_
    simp only [wL0, wLc, true_and, w2, lg0, lgi, lgr, lgl, w35, kM0, rM0, kM1, nM1, w0, w1, w11, w40, tn1, vi1_120, w84, si_is]
    rw [show (110 : Int32) = nI 110 from rfl, nI_add, nI_clamp (show 110 + i < 2 ^ 31 by omega)]
    exact ⟨vp_in_nI (by omega) (by decide), h2 i hi rfl h⟩
  refine PW_blk okM_hold 1 rfl SpM_ok ?_
  simp only [wL0, wLc, true_and, w1, lg0, lgi, lgr, lgl, w0, w78]
  by_cases h : l = -1
  · refine b2Y h ?_
    exact ok (Or.inl h)
  refine b2N h ?_
  refine PW_blk okM_hold 2 rfl SpM_ok ?_
  simp only [wL0, wLc, true_and, w2, lg0, lgi, lgr, lgl, w1, w54_2, q40, q41, q42, q43, q44, Option.toList_some, Option.toList_none, List.cons_append, List.nil_append, sp_isLock, w73]
  by_cases hl : hasL (σ.1 1) l
  · exact dY (in1LY hI.1 hl) (ok (Or.inr hl))
  · refine dN (in1LN hI.1 hl) ?_
    refine PW_blk okM_hold 3 rfl SpM_ok ?_
    simp only [wL0, wLc, true_and, w2, lg0, lgi, lgr, lgl, w0, w54_2, q40, q41, q42, q43, q44, Option.toList_some, Option.toList_none, List.cons_append, List.nil_append, sp_no, v7_0, v7_1, v7_2, v7_3, v7_4, v7_5, v7_6, w84]
    exact h1 (fun z => z.2.elim h hl)
theorem R_as {s c : Int32} (hI : Inv (σ.1 1)) (h1 : ¬ (rgI s 0 9 ∧ rgI c 0 6) → K (some (.int (-1000001))) (noS σ 0)) (h2 : ∀ i, i ≤ 9 → s = nI i → rgI c 0 6 → σ.1 1 (110 + i) = -1 → K (some (.int (-1000006))) (noS σ 5)) (h3 : ∀ i k d, i ≤ 9 → s = nI i → d ≤ 6 → c = nI d → k < nv (σ.1 1) 3 → σ.1 1 (110 + i) = nI k → isU 3 (nv (σ.1 1) (tr k 0)) d = true → K (some (.int (nI k))) σ) (h4 : ∀ i k d, i ≤ 9 → s = nI i → d ≤ 6 → c = nI d → k < nv (σ.1 1) 3 → σ.1 1 (110 + i) = nI k → isU 3 (nv (σ.1 1) (tr k 0)) d = false → K (some (.int (-1000003))) (noS σ 2)) : Rn 1 ev mM_as [.ref 0, .int s, .int c] σ K := by
  have hn := hI.1.2
  refine Rn_V (by decide) rc6 rfl rfl ?_
  refine PW_blk okM_as 0 rfl SpM_ok ?_
  simp only [wL0, wLc, true_and, w1, lg0, lgi, lgr, lgl, w55_1, q40, q41, q42, q43, q44, Option.toList_some, Option.toList_none, List.cons_append, List.nil_append, sp_isSpot, w72]
  by_cases hr : rgI s 0 9
  rotate_left
  · refine bN (in1N (a := 0) (by decide) (by decide) hr) ?_
    refine PW_blk okM_as 2 rfl SpM_ok ?_
    simp only [wL0, wLc, true_and, w2, lg0, lgi, lgr, lgl, w0, w54_2, q40, q41, q42, q43, q44, Option.toList_some, Option.toList_none, List.cons_append, List.nil_append, sp_no, v7_0, v7_1, v7_2, v7_3, v7_4, v7_5, v7_6, w84]
    exact h1 (fun z => hr z.1)
  refine bY (in1Y (a := 0) (by decide) hr) ?_
  refine PW_blk okM_as 1 rfl SpM_ok ?_
  simp only [wL0, wLc, true_and, w1, lg0, lgi, lgr, lgl, w0, w55_3, q40, q41, q42, q43, q44, Option.toList_some, Option.toList_none, List.cons_append, List.nil_append, sp_in1, w73]
  by_cases hd : rgI c 0 6
  rotate_left
  · refine dN (in1N (a := 0) (by decide) (by decide) hd) ?_
    refine PW_blk okM_as 2 rfl SpM_ok ?_
    simp only [wL0, wLc, true_and, w2, lg0, lgi, lgr, lgl, w0, w54_2, q40, q41, q42, q43, q44, Option.toList_some, Option.toList_none, List.cons_append, List.nil_append, sp_no, v7_0, v7_1, v7_2, v7_3, v7_4, v7_5, v7_6, w84]
    exact h1 (fun z => hd z.2)
  refine dY (in1Y (a := 0) (by decide) hd) ?_
  obtain ⟨i, -, hi, rfl⟩ := hr
  refine PW_blk okM_as 3 rfl SpM_ok ?_
  simp only [wL0, wLc, true_and, w2, lg0, lgi, lgr, lgl, w35, kM0, rM0, kM1, nM1, w0, w1, w11, w39, w4, ls00, ls0i, ls0r, ls0l, lsi, lsr, lsl, Option.map_some, w75]
  rw [show (110 : Int32) = nI 110 from rfl, nI_add, nI_clamp (show 110 + i < 2 ^ 31 by omega)]
  refine ⟨vp_in_nI (by omega) (by decide), ?_⟩
  rcases hI.2.2.2.2.2.2.2.2.2 i (by omega) with e | ⟨k, hk, e⟩
  · rw [e]
    refine b3Y (by decide) ?_
    refine PW_blk okM_as 4 rfl SpM_ok ?_
    simp only [wL0, wLc, true_and, w2, lg0, lgi, lgr, lgl, w0, w54_2, q40, q41, q42, q43, q44, Option.toList_some, Option.toList_none, List.cons_append, List.nil_append, sp_no, v7_0, v7_1, v7_2, v7_3, v7_4, v7_5, v7_6, w84]
    exact h2 i hi rfl hd e
  obtain ⟨d, -, hd, rfl⟩ := hd
  have h3 := h3 i k d hi rfl hd rfl hk e
  have h4 := h4 i k d hi rfl hd rfl hk e
  have hk10 : k < 10 := by omega
  have hs := (hI.2.2.2.2.2.2.2.2.1 k hk).1
  rw [e]
  refine b3N (lt0 (by omega)) ?_
  refine PW_blk okM_as 5 rfl SpM_ok ?_
  simp only [wL0, wLc, true_and, w2, lg0, lgi, lgr, lgl, w1, w0, w54_3, q40, q41, q42, q43, q44, Option.toList_some, Option.toList_none, List.cons_append, List.nil_append, sp_get, w4, ls00, ls0i, ls0r, ls0l, lsi, lsr, lsl, Option.map_some, w71, gv0 hk10, gt0 hk10, hs.1]
  have stop : ∀ a, a < 7 → (a = d ∨ a = 0) → isU 3 (nv (σ.1 1) (tr k 0)) d = isU 3 a d → PW 1 ev mM_as 72 [.ref 0, .int (nI i), .int (nI d), .int (nI k), .int (nI a)] [] σ K := by
    intro a ha hor he
    refine PW_blk okM_as 9 rfl SpM_ok ?_
    simp only [wL0, wLc, true_and, w1, lg0, lgi, lgr, lgl, w79]
    rw [nI_eq_iff (by omega) (by omega)]
    by_cases c : a = d
    · refine b3Y c ?_
      refine PW_blk okM_as 10 rfl SpM_ok ?_
      simp only [wL0, wLc, true_and, w1, lg0, lgi, lgr, lgl, w70]
      refine PW_blk okM_as 12 rfl SpM_ok ?_
      simp only [wL0, w84]
      subst c
      exact h3 (by rw [he]; exact isU_e a (by omega))
    · refine b3N c ?_
      refine PW_blk okM_as 11 rfl SpM_ok ?_
      simp only [wL0, wLc, true_and, w2, lg0, lgi, lgr, lgl, w0, w54_2, q40, q41, q42, q43, q44, Option.toList_some, Option.toList_none, List.cons_append, List.nil_append, sp_no, v7_0, v7_1, v7_2, v7_3, v7_4, v7_5, v7_6, w71]
      refine PW_blk okM_as 12 rfl SpM_ok ?_
      simp only [wL0, w84]
      have a0 := hor.resolve_left c
      subst a0
      exact h4 (by rw [he]; exact isU_0 d (by omega) (fun z => c z.symm))
  have step : ∀ a, a < 7 → (a ≠ 0 → isU 3 (nv (σ.1 1) (tr k 0)) d = isU 3 (upF a) d → PW 1 ev mM_as 51 [.ref 0, .int (nI i), .int (nI d), .int (nI k), .int (nI (upF a))] [] σ K) → isU 3 (nv (σ.1 1) (tr k 0)) d = isU 3 a d → PW 1 ev mM_as 51 [.ref 0, .int (nI i), .int (nI d), .int (nI k), .int (nI a)] [] σ K := by
    intro a ha nx he
    refine PW_blk okM_as 6 rfl SpM_ok ?_
    simp only [wL0, wLc, true_and, w1, lg0, lgi, lgr, lgl, w78]
    rw [nI_eq_iff (by omega) (by omega)]
    by_cases c : a = d
    · exact b2Y c (stop a ha (Or.inl c) he)
    refine b2N c ?_
    refine PW_blk okM_as 7 rfl SpM_ok ?_
    simp only [wL0, wLc, true_and, w1, lg0, lgi, lgr, lgl, w72]
    rw [nI_z (by omega)]
    by_cases c2 : a = 0
    · exact b2Y c2 (stop a ha (Or.inr c2) he)
    refine b2N c2 ?_
    refine PW_blk okM_as 8 rfl SpM_ok ?_
    simp only [wL0, wLc, true_and, w1, lg0, lgi, lgr, lgl, w55_1, q40, q41, q42, q43, q44, Option.toList_some, Option.toList_none, List.cons_append, List.nil_append, sp_above, w4, ls00, ls0i, ls0r, ls0l, lsi, lsr, lsl, Option.map_some, w70]
    rw [abF_n a ha]
    exact nx c2 (by rw [he]; exact isU_s a ha d (by omega) c2 c)
  have l0 := step 0 (by decide) (fun z => absurd rfl z)
  have l1 := step 1 (by decide) (fun _ => l0)
  have l2 := step 2 (by decide) (fun _ => l0)
  have l3 := step 3 (by decide) (fun _ => l2)
  have l4 := step 4 (by decide) (fun _ => l3)
  have l5 := step 5 (by decide) (fun _ => l1)
  have l6 := step 6 (by decide) (fun _ => l0)
  have hs6 := hs.2
  generalize nv (σ.1 1) (tr k 0) = a at *
  rcases (show a = 0 ∨ a = 1 ∨ a = 2 ∨ a = 3 ∨ a = 4 ∨ a = 5 ∨ a = 6 by omega) with rfl | rfl | rfl | rfl | rfl | rfl | rfl
  · exact l0 rfl
  · exact l1 rfl
  · exact l2 rfl
  · exact l3 rfl
  · exact l4 rfl
  · exact l5 rfl
  · exact l6 rfl
theorem R_sheet {s b n : Int32} (h1 : ¬ (rgI s 0 3 ∧ (b = 0 ∨ b = 8 ∨ b = 16 ∨ b = 32)) → K (some (.int (-1000001))) (noS σ 0)) (h2 : rgI s 0 3 → (b = 0 ∨ b = 8 ∨ b = 16 ∨ b = 32) → n < 0 → K (some (.int (-1000007))) (noS σ 6)) (h3 : rgI s 0 3 → (b = 0 ∨ b = 8 ∨ b = 16 ∨ b = 32) → 40 < n → K (some (.int (-1000001))) (noS σ 0)) (h4 : ∀ j m, j ≤ 3 → s = nI j → (b = 0 ∨ b = 8 ∨ b = 16 ∨ b = 32) → m ≤ 40 → n = nI m → K (some (.int (if b = 0 then 0 else nI m))) (sr (sr (sr σ 13 (upd (σ.1 13) j b)) 14 (upd (σ.1 14) j (if b = 0 then 0 else nI m))) 15 (clC (σ.1 15) (40 * j) 40))) : Rn 1 ev mM_sheet [.ref 0, .int s, .int b, .int n] σ K := by
  refine Rn_V (by decide) rc6 rfl rfl ?_
  refine PW_blk okM_sheet 0 rfl SpM_ok ?_
  simp only [wL0, wLc, true_and, w1, lg0, lgi, lgr, lgl, w55_1, q40, q41, q42, q43, q44, Option.toList_some, Option.toList_none, List.cons_append, List.nil_append, sp_isSheet, w72]
  by_cases hr : rgI s 0 3
  rotate_left
  · refine bN (in1N (a := 0) (by decide) (by decide) hr) ?_
    refine PW_blk okM_sheet 5 rfl SpM_ok ?_
    simp only [wL0, wLc, true_and, w2, lg0, lgi, lgr, lgl, w0, w54_2, q40, q41, q42, q43, q44, Option.toList_some, Option.toList_none, List.cons_append, List.nil_append, sp_no, v7_0, v7_1, v7_2, v7_3, v7_4, v7_5, v7_6, w84]
    exact h1 (fun z => hr z.1)
  refine bY (in1Y (a := 0) (by decide) hr) ?_
  have ok : (b = 0 ∨ b = 8 ∨ b = 16 ∨ b = 32) → PW 1 ev mM_sheet 35 [.ref 0, .int s, .int b, .int n] [] σ K := by
    intro hb
    refine PW_blk okM_sheet 6 rfl SpM_ok ?_
    simp only [wL0, wLc, true_and, w1, lg0, lgi, lgr, lgl, w75]
    by_cases c1 : n < 0
    · refine b3Y c1 ?_
      refine PW_blk okM_sheet 7 rfl SpM_ok ?_
      simp only [wL0, wLc, true_and, w2, lg0, lgi, lgr, lgl, w0, w54_2, q40, q41, q42, q43, q44, Option.toList_some, Option.toList_none, List.cons_append, List.nil_append, sp_no, v7_0, v7_1, v7_2, v7_3, v7_4, v7_5, v7_6, w84]
      exact h2 hr hb c1
    refine b3N c1 ?_
    refine PW_blk okM_sheet 8 rfl SpM_ok ?_
    simp only [wL0, wLc, true_and, w1, lg0, lgi, lgr, lgl, w0, w83]
    by_cases c2 : 40 < n
    · refine b3Y c2 ?_
      refine PW_blk okM_sheet 9 rfl SpM_ok ?_
      simp only [wL0, wLc, true_and, w2, lg0, lgi, lgr, lgl, w0, w54_2, q40, q41, q42, q43, q44, Option.toList_some, Option.toList_none, List.cons_append, List.nil_append, sp_no, v7_0, v7_1, v7_2, v7_3, v7_4, v7_5, v7_6, w84]
      exact h3 hr hb c2
    refine b3N c2 ?_
    obtain ⟨m, hm, rfl⟩ := ge0 c1
    rw [show (40 : Int32) = nI 40 from rfl, nI_lt_iff (by decide) hm] at c2
    obtain ⟨j, -, hj, rfl⟩ := hr
    have hkk := h4 j m hj rfl hb (by omega) rfl
    have hv : vp_in (nI j) 4 := vp_in_nI (by omega) (by decide)
    have cl : (nI j).toNatClampNeg = j := nI_clamp (by omega)
    have fin : ∀ x, x = (if b = 0 then 0 else nI m) → PW 1 ev mM_sheet 79 [.ref 0, .int (nI j), .int b, .int (nI m)] [.int x, .int (nI j), .ref 14] (sr σ 13 (upd (σ.1 13) j b)) K := by
      intro x hx
      subst hx
      refine PW_blk okM_sheet 13 rfl SpM_ok ?_
      simp only [wL0, wLc, true_and, w40, w0, w4, ls00, ls0i, ls0r, ls0l, lsi, lsr, lsl, Option.map_some, tn0, w71, si_is, kM14, nM14, eq_true hv, cl, n13_14]
      have key := lp_up (n := 40) (P := fun i => PW 1 ev mM_sheet 83 [.ref 0, .int (nI j), .int b, .int (nI m), .int (nI i)] [] (sr (sr (sr σ 13 (upd (σ.1 13) j b)) 14 (upd (σ.1 14) j (if b = 0 then 0 else nI m))) 15 (clC (σ.1 15) (40 * j) i)) K) ?_ ?_ 0 (by decide)
      · rw [clC_0] at key
        have e : sr (sr (sr σ 13 (upd (σ.1 13) j b)) 14 (upd (σ.1 14) j (if b = 0 then 0 else nI m))) 15 (σ.1 15) = sr (sr σ 13 (upd (σ.1 13) j b)) 14 (upd (σ.1 14) j (if b = 0 then 0 else nI m)) := sr_eq (by rw [n14_15, n13_15])
        rw [e] at key
        exact key
      · refine PW_blk okM_sheet 14 rfl SpM_ok ?_
        simp only [wL0, wLc, true_and, w1, lg0, lgi, lgr, lgl, w0, w81]
        refine b3N (by decide) ?_
        refine PW_blk okM_sheet 16 rfl SpM_ok ?_
        simp only [wL0, wLc, true_and, w2, lg0, lgi, lgr, lgl, w35, kM0, rM21, kM14, nM14, w1, w39, w84, n15_14, sr1, eq_true hv, cl, updS]
        exact hkk
      · intro i hi ih
        have hv2 : vp_in (nI (40 * j + i)) 160 := vp_in_nI (by omega) (by decide)
        have cl2 : (nI (40 * j + i)).toNatClampNeg = 40 * j + i := nI_clamp (by omega)
        have e40 : (40 : Int32) * nI j + nI i = nI (40 * j + i) := by rw [show (40 : Int32) = nI 40 from rfl, pk_mul, nI_add]
        refine PW_blk okM_sheet 14 rfl SpM_ok ?_
        simp only [wL0, wLc, true_and, w1, lg0, lgi, lgr, lgl, w0, w81]
        refine b3Y (nI_lt hi (by decide)) ?_
        refine PW_blk okM_sheet 15 rfl SpM_ok ?_
        simp only [wL0, wLc, true_and, w2, lg0, lgi, lgr, lgl, w35, kM0, rM22, kM15, nM15, w0, w1, w13, w11, w40, w7, ls00, ls0i, ls0r, ls0l, lsi, lsr, lsl, Option.map_some, tn0, w70, e40, eq_true hv2, cl2, si_sr, clC_s]
        rw [show (1 : Int32) = nI 1 from rfl, nI_add]
        exact ih
    refine PW_blk okM_sheet 10 rfl SpM_ok ?_
    simp only [wL0, wLc, true_and, w2, lg0, lgi, lgr, lgl, w35, kM0, rM20, kM13, nM13, w1, w40, rM21, kM14, nM14, w73, si_is, sr1, eq_true hv, cl]
    by_cases c3 : b = 0
    · refine b3Y c3 ?_
      refine PW_blk okM_sheet 11 rfl SpM_ok ?_
      simp only [wL0, wLc, true_and, w0, w70]
      exact fin 0 (by rw [if_pos c3])
    · refine b3N c3 ?_
      refine PW_blk okM_sheet 12 rfl SpM_ok ?_
      simp only [wL0, wLc, true_and, w1, lg0, lgi, lgr, lgl, w71]
      exact fin (nI m) (by rw [if_neg c3])
  refine PW_blk okM_sheet 1 rfl SpM_ok ?_
  simp only [wL0, wLc, true_and, w1, lg0, lgi, lgr, lgl, w72]
  by_cases d0 : b = 0
  · exact b2Y d0 (ok (Or.inl d0))
  refine b2N d0 ?_
  refine PW_blk okM_sheet 2 rfl SpM_ok ?_
  simp only [wL0, wLc, true_and, w1, lg0, lgi, lgr, lgl, w0, w78]
  by_cases d1 : b = 8
  · exact b2Y d1 (ok (Or.inr (Or.inl d1)))
  refine b2N d1 ?_
  refine PW_blk okM_sheet 3 rfl SpM_ok ?_
  simp only [wL0, wLc, true_and, w1, lg0, lgi, lgr, lgl, w0, w78]
  by_cases d2 : b = 16
  · exact b2Y d2 (ok (Or.inr (Or.inr (Or.inl d2))))
  refine b2N d2 ?_
  refine PW_blk okM_sheet 4 rfl SpM_ok ?_
  simp only [wL0, wLc, true_and, w1, lg0, lgi, lgr, lgl, w0, w78]
  by_cases d3 : b = 32
  · exact b2Y d3 (ok (Or.inr (Or.inr (Or.inr d3))))
  refine b2N d3 ?_
  refine PW_blk okM_sheet 5 rfl SpM_ok ?_
  simp only [wL0, wLc, true_and, w2, lg0, lgi, lgr, lgl, w0, w54_2, q40, q41, q42, q43, q44, Option.toList_some, Option.toList_none, List.cons_append, List.nil_append, sp_no, v7_0, v7_1, v7_2, v7_3, v7_4, v7_5, v7_6, w84]
  exact h1 (fun z => by rcases z.2 with z | z | z | z; exact d0 z; exact d1 z; exact d2 z; exact d3 z)
theorem R_write {s i v : Int32} (hSh : ShI (σ.1 13) (σ.1 14)) (h1 : ¬ rgI s 0 3 → K (some (.int (-1000001))) (noS σ 0)) (h2 : ∀ j, j < 4 → s = nI j → σ.1 13 j = 0 → K (some (.int (-1000006))) (noS σ 5)) (h3 : ∀ j, j < 4 → s = nI j → ¬ σ.1 13 j = 0 → (¬ ∃ q, q < nv (σ.1 14) j ∧ i = nI q) → K (some (.int (-1000001))) (noS σ 0)) (h4 : ∀ j q, j < 4 → s = nI j → ¬ σ.1 13 j = 0 → q < nv (σ.1 14) j → i = nI q → K (some (.int 1)) (sr σ 15 (upd (σ.1 15) (40 * j + q) (nrw (σ.1 13 j) v)))) : Rn 1 ev mM_write [.ref 0, .int s, .int i, .int v] σ K := by
  refine Rn_V (by decide) rc6 rfl rfl ?_
  refine PW_blk okM_write 0 rfl SpM_ok ?_
  simp only [wL0, wLc, true_and, w2, lg0, lgi, lgr, lgl, w1, w54_2, q40, q41, q42, q43, q44, Option.toList_some, Option.toList_none, List.cons_append, List.nil_append, w4, ls00, ls0i, ls0r, ls0l, lsi, lsr, lsl, Option.map_some, w75]
  refine R_wrongSheet (fun a => ?_) (fun j a b c => ?_) (fun j hj e c => ?_)
  · simp only [wL0, wLc, true_and, w2, lg0, lgi, lgr, lgl, w1, w54_2, q40, q41, q42, q43, q44, Option.toList_some, Option.toList_none, List.cons_append, List.nil_append, w4, ls00, ls0i, ls0r, ls0l, lsi, lsr, lsl, Option.map_some, w75]
    refine b3N (by decide) ?_
    refine PW_blk okM_write 3 rfl SpM_ok ?_
    simp only [wL0, wLc, true_and, w1, lg0, lgi, lgr, lgl, w74]
    refine b2N (by decide) ?_
    refine PW_blk okM_write 4 rfl SpM_ok ?_
    simp only [wL0, wLc, true_and, w2, lg0, lgi, lgr, lgl, w1, w54_2, q40, q41, q42, q43, q44, Option.toList_some, Option.toList_none, List.cons_append, List.nil_append, sp_no, v7_0, v7_1, v7_2, v7_3, v7_4, v7_5, v7_6, w84]
    exact h1 a
  · simp only [wL0, wLc, true_and, w2, lg0, lgi, lgr, lgl, w1, w54_2, q40, q41, q42, q43, q44, Option.toList_some, Option.toList_none, List.cons_append, List.nil_append, w4, ls00, ls0i, ls0r, ls0l, lsi, lsr, lsl, Option.map_some, w75]
    refine b3N (by decide) ?_
    refine PW_blk okM_write 3 rfl SpM_ok ?_
    simp only [wL0, wLc, true_and, w1, lg0, lgi, lgr, lgl, w74]
    refine b2N (by decide) ?_
    refine PW_blk okM_write 4 rfl SpM_ok ?_
    simp only [wL0, wLc, true_and, w2, lg0, lgi, lgr, lgl, w1, w54_2, q40, q41, q42, q43, q44, Option.toList_some, Option.toList_none, List.cons_append, List.nil_append, sp_no, v7_0, v7_1, v7_2, v7_3, v7_4, v7_5, v7_6, w84]
    exact h2 j a b c
  · subst e
    simp only [wL0, wLc, true_and, w2, lg0, lgi, lgr, lgl, w1, w54_2, q40, q41, q42, q43, q44, Option.toList_some, Option.toList_none, List.cons_append, List.nil_append, w4, ls00, ls0i, ls0r, ls0l, lsi, lsr, lsl, Option.map_some, w75]
    refine b3Y (by decide) ?_
    have hN := (hSh j hj).2
    have hN2 := hN.2
    have hv : vp_in (nI j) 4 := vp_in_nI hj (by decide)
    have cl : (nI j).toNatClampNeg = j := nI_clamp (by omega)
    refine PW_blk okM_write 1 rfl SpM_ok ?_
    simp only [wL0, wLc, true_and, w1, lg0, lgi, lgr, lgl, w0, w2, w35, kM0, rM21, kM14, nM14, w39, w12, w55_3, q40, q41, q42, q43, q44, Option.toList_some, Option.toList_none, List.cons_append, List.nil_append, sp_in1, tn0, tn1, w73, eq_true hv, cl]
    have hS3 : rg (fun q => if q = 3 then σ.1 14 j else 0) 3 10 ∨ True := Or.inr trivial
    by_cases hq : ∃ q, q < nv (σ.1 14) j ∧ i = nI q
    rotate_left
    · refine dN (by
        rw [hN.1]
        rcases Nat.eq_zero_or_pos (nv (σ.1 14) j) with z | z
        · rw [z]
          unfold in1F
          by_cases q1 : i < 0
          · rw [if_pos q1]
          · rw [if_neg q1, if_pos]
            rw [fa_lt] at q1 ⊢
            have e0 : (0 : Int32).toInt = 0 := by decide
            have e1 : (nI 0 - 1).toInt = -1 := by decide
            omega
        · rw [m1_pos z]
          refine in1N (a := 0) (by omega) (by decide) (fun hh => ?_)
          obtain ⟨n, a1, a2, e⟩ := hh
          exact hq ⟨n, by omega, e⟩) ?_
      refine PW_blk okM_write 2 rfl SpM_ok ?_
      simp only [wL0, wLc, true_and, w0, w4, ls00, ls0i, ls0r, ls0l, lsi, lsr, lsl, Option.map_some, w71]
      refine PW_blk okM_write 3 rfl SpM_ok ?_
      simp only [wL0, wLc, true_and, w1, lg0, lgi, lgr, lgl, w74]
      refine b2N (by decide) ?_
      refine PW_blk okM_write 4 rfl SpM_ok ?_
      simp only [wL0, wLc, true_and, w2, lg0, lgi, lgr, lgl, w1, w54_2, q40, q41, q42, q43, q44, Option.toList_some, Option.toList_none, List.cons_append, List.nil_append, sp_no, v7_0, v7_1, v7_2, v7_3, v7_4, v7_5, v7_6, w84]
      exact h3 j hj rfl c hq
    · obtain ⟨q, hq1, rfl⟩ := hq
      refine dY (by
        rw [hN.1, m1_pos (by omega)]
        exact in1Y (a := 0) (by omega) ⟨q, Nat.zero_le _, by omega, rfl⟩) ?_
      have hkk := h4 j q hj rfl c hq1 rfl
      unfold nrw at hkk
      have hv2 : vp_in (nI (40 * j + q)) 160 := vp_in_nI (by omega) (by decide)
      have cl2 : (nI (40 * j + q)).toNatClampNeg = 40 * j + q := nI_clamp (by omega)
      have e40 : (40 : Int32) * nI j + nI q = nI (40 * j + q) := by rw [show (40 : Int32) = nI 40 from rfl, pk_mul, nI_add]
      have fin : ∀ x, K (some (.int 1)) (sr σ 15 (upd (σ.1 15) (40 * j + q) x)) → PW 1 ev mM_write 86 [.ref 0, .int (nI j), .int (nI q), .int v, .int (-1)] [.int x, .int (nI (40 * j + q)), .ref 15] σ K := by
        intro x hx
        refine PW_blk okM_write 10 rfl SpM_ok ?_
        simp only [wL0, wLc, true_and, w40, w0, tn1, w84, si_is, kM15, nM15, eq_true hv2, cl2]
        exact hx
      refine PW_blk okM_write 3 rfl SpM_ok ?_
      simp only [wL0, wLc, true_and, w1, lg0, lgi, lgr, lgl, w74]
      refine b2Y (by decide) ?_
      refine PW_blk okM_write 5 rfl SpM_ok ?_
      simp only [wL0, wLc, true_and, w2, lg0, lgi, lgr, lgl, w35, kM0, rM22, kM15, nM15, w0, w1, w13, w11, rM20, kM13, nM13, w39, tn8, w79, e40, eq_true hv, cl]
      by_cases ew8 : σ.1 13 j = 8
      · rw [if_pos ew8] at hkk
        refine b3Y ew8 ?_
        refine PW_blk okM_write 6 rfl SpM_ok ?_
        simp only [wL0, wLc, true_and, w1, lg0, lgi, lgr, lgl, w30, w70]
        exact fin _ hkk
      rw [if_neg ew8] at hkk
      refine b3N ew8 ?_
      refine PW_blk okM_write 7 rfl SpM_ok ?_
      simp only [wL0, wLc, true_and, w2, lg0, lgi, lgr, lgl, w35, kM0, rM20, kM13, nM13, w1, w39, w0, w79, eq_true hv, cl]
      by_cases ew16 : σ.1 13 j = 16
      · rw [if_pos ew16] at hkk
        refine b3Y ew16 ?_
        refine PW_blk okM_write 8 rfl SpM_ok ?_
        simp only [wL0, wLc, true_and, w1, lg0, lgi, lgr, lgl, w31, w70]
        exact fin _ hkk
      rw [if_neg ew16] at hkk
      refine b3N ew16 ?_
      refine PW_blk okM_write 9 rfl SpM_ok ?_
      simp only [wL0, wLc, true_and, w1, lg0, lgi, lgr, lgl, w71]
      exact fin _ hkk
theorem R_copy {s a t b n : Int32} (hSh : ShI (σ.1 13) (σ.1 14)) (h1 : ¬ (rgI s 0 3 ∧ rgI t 0 3) → K (some (.int (-1000001))) (noS σ 0)) (h2 : ∀ j l, j < 4 → l < 4 → s = nI j → t = nI l → (σ.1 13 j = 0 ∨ σ.1 13 l = 0) → K (some (.int (-1000006))) (noS σ 5)) (h3 : ∀ j l, j < 4 → l < 4 → s = nI j → t = nI l → ¬ (σ.1 13 j = 0 ∨ σ.1 13 l = 0) → ¬ σ.1 13 j = σ.1 13 l → K (some (.int (-1000003))) (noS σ 2)) (h4 : ∀ j l, j < 4 → l < 4 → s = nI j → t = nI l → ¬ (σ.1 13 j = 0 ∨ σ.1 13 l = 0) → σ.1 13 j = σ.1 13 l → (¬ ∃ p q c, a = nI p ∧ b = nI q ∧ n = nI c ∧ p + c ≤ nv (σ.1 14) j ∧ q + c ≤ nv (σ.1 14) l) → K (some (.int (-1000001))) (noS σ 0)) (h5 : ∀ j l p q c, j < 4 → l < 4 → s = nI j → t = nI l → ¬ (σ.1 13 j = 0 ∨ σ.1 13 l = 0) → σ.1 13 j = σ.1 13 l → a = nI p → b = nI q → n = nI c → p + c ≤ nv (σ.1 14) j → q + c ≤ nv (σ.1 14) l → ∀ r, K (some (.int (nI c))) (sr (sr σ 16 r) 15 (cpC (σ.1 15) (σ.1 15) (40 * l + q) (40 * j + p) c))) : Rn 1 ev mM_copy [.ref 0, .int s, .int a, .int t, .int b, .int n] σ K := by
  refine Rn_V (by decide) rc6 rfl rfl ?_
  refine PW_blk okM_copy 0 rfl SpM_ok ?_
  simp only [wL0, wLc, true_and, w1, lg0, lgi, lgr, lgl, w55_1, q40, q41, q42, q43, q44, Option.toList_some, Option.toList_none, List.cons_append, List.nil_append, sp_isSheet, w72]
  by_cases hr : rgI s 0 3
  rotate_left
  · refine bN (in1N (a := 0) (by decide) (by decide) hr) ?_
    refine PW_blk okM_copy 2 rfl SpM_ok ?_
    simp only [wL0, wLc, true_and, w2, lg0, lgi, lgr, lgl, w0, w54_2, q40, q41, q42, q43, q44, Option.toList_some, Option.toList_none, List.cons_append, List.nil_append, sp_no, v7_0, v7_1, v7_2, v7_3, v7_4, v7_5, v7_6, w84]
    exact h1 (fun z => hr z.1)
  refine bY (in1Y (a := 0) (by decide) hr) ?_
  refine PW_blk okM_copy 1 rfl SpM_ok ?_
  simp only [wL0, wLc, true_and, w1, lg0, lgi, lgr, lgl, w55_1, q40, q41, q42, q43, q44, Option.toList_some, Option.toList_none, List.cons_append, List.nil_append, sp_isSheet, w73]
  by_cases hr2 : rgI t 0 3
  rotate_left
  · refine dN (in1N (a := 0) (by decide) (by decide) hr2) ?_
    refine PW_blk okM_copy 2 rfl SpM_ok ?_
    simp only [wL0, wLc, true_and, w2, lg0, lgi, lgr, lgl, w0, w54_2, q40, q41, q42, q43, q44, Option.toList_some, Option.toList_none, List.cons_append, List.nil_append, sp_no, v7_0, v7_1, v7_2, v7_3, v7_4, v7_5, v7_6, w84]
    exact h1 (fun z => hr2 z.2)
  refine dY (in1Y (a := 0) (by decide) hr2) ?_
  obtain ⟨j, -, hj, rfl⟩ := hr
  obtain ⟨l, -, hl, rfl⟩ := hr2
  have h2 := h2 j l (by omega) (by omega) rfl rfl
  have h3 := h3 j l (by omega) (by omega) rfl rfl
  have h4 := h4 j l (by omega) (by omega) rfl rfl
  have h5 := fun p q c => h5 j l p q c (by omega) (by omega) rfl rfl
  have hvj : vp_in (nI j) 4 := vp_in_nI (by omega) (by decide)
  have clj : (nI j).toNatClampNeg = j := nI_clamp (by omega)
  have hvl : vp_in (nI l) 4 := vp_in_nI (by omega) (by decide)
  have cll : (nI l).toNatClampNeg = l := nI_clamp (by omega)
  have hNj := (hSh j (by omega)).2
  have hNl := (hSh l (by omega)).2
  have hNj2 := hNj.2
  have hNl2 := hNl.2
  refine PW_blk okM_copy 3 rfl SpM_ok ?_
  simp only [wL0, wLc, true_and, w2, lg0, lgi, lgr, lgl, w35, kM0, rM20, kM13, nM13, w1, w39, w72, eq_true hvj, clj]
  by_cases ew1 : σ.1 13 j = 0
  · refine b2Y ew1 ?_
    refine PW_blk okM_copy 5 rfl SpM_ok ?_
    simp only [wL0, wLc, true_and, w2, lg0, lgi, lgr, lgl, w0, w54_2, q40, q41, q42, q43, q44, Option.toList_some, Option.toList_none, List.cons_append, List.nil_append, sp_no, v7_0, v7_1, v7_2, v7_3, v7_4, v7_5, v7_6, w84]
    exact h2 (Or.inl ew1)
  refine b2N ew1 ?_
  refine PW_blk okM_copy 4 rfl SpM_ok ?_
  simp only [wL0, wLc, true_and, w2, lg0, lgi, lgr, lgl, w35, kM0, rM20, kM13, nM13, w1, w39, w73, eq_true hvl, cll]
  by_cases ew2 : σ.1 13 l = 0
  · refine b3Y ew2 ?_
    refine PW_blk okM_copy 5 rfl SpM_ok ?_
    simp only [wL0, wLc, true_and, w2, lg0, lgi, lgr, lgl, w0, w54_2, q40, q41, q42, q43, q44, Option.toList_some, Option.toList_none, List.cons_append, List.nil_append, sp_no, v7_0, v7_1, v7_2, v7_3, v7_4, v7_5, v7_6, w84]
    exact h2 (Or.inr ew2)
  refine b3N ew2 ?_
  have hw : ¬ (σ.1 13 j = 0 ∨ σ.1 13 l = 0) := fun z => z.elim ew1 ew2
  refine PW_blk okM_copy 6 rfl SpM_ok ?_
  simp only [wL0, wLc, true_and, w2, lg0, lgi, lgr, lgl, w35, kM0, rM20, kM13, nM13, w1, w39, w78, eq_true hvl, eq_true hvj, cll, clj]
  by_cases ew3 : σ.1 13 j = σ.1 13 l
  rotate_left
  · refine b2N ew3 ?_
    refine PW_blk okM_copy 7 rfl SpM_ok ?_
    simp only [wL0, wLc, true_and, w2, lg0, lgi, lgr, lgl, w0, w54_2, q40, q41, q42, q43, q44, Option.toList_some, Option.toList_none, List.cons_append, List.nil_append, sp_no, v7_0, v7_1, v7_2, v7_3, v7_4, v7_5, v7_6, w84]
    exact h3 hw ew3
  refine b2Y ew3 ?_
  have bad : (¬ ∃ p q c, a = nI p ∧ b = nI q ∧ n = nI c ∧ p + c ≤ nv (σ.1 14) j ∧ q + c ≤ nv (σ.1 14) l) → PW 1 ev mM_copy 106 [.ref 0, .int (nI j), .int a, .int (nI l), .int b, .int n] [] σ K := by
    intro h
    refine PW_blk okM_copy 13 rfl SpM_ok ?_
    simp only [wL0, wLc, true_and, w2, lg0, lgi, lgr, lgl, w0, w54_2, q40, q41, q42, q43, q44, Option.toList_some, Option.toList_none, List.cons_append, List.nil_append, sp_no, v7_0, v7_1, v7_2, v7_3, v7_4, v7_5, v7_6, w84]
    exact h4 hw ew3 h
  have fit : ∀ p c x, p + c ≤ x → x ≤ 40 → p < 2147483648 ∧ c < 2147483648 := fun p c x h h2 => ⟨by omega, by omega⟩
  refine PW_blk okM_copy 8 rfl SpM_ok ?_
  simp only [wL0, wLc, true_and, w1, lg0, lgi, lgr, lgl, w74]
  by_cases c1 : n < 0
  · refine b2Y c1 ?_
    exact bad (fun ⟨p, q, c, x, y, z, u, v⟩ => by rw [z] at c1; exact lt0 (by omega) c1)
  refine b2N c1 ?_
  refine PW_blk okM_copy 9 rfl SpM_ok ?_
  simp only [wL0, wLc, true_and, w1, lg0, lgi, lgr, lgl, w74]
  by_cases c2 : a < 0
  · refine b2Y c2 ?_
    exact bad (fun ⟨p, q, c, x, y, z, u, v⟩ => by rw [x] at c2; exact lt0 (by omega) c2)
  refine b2N c2 ?_
  refine PW_blk okM_copy 10 rfl SpM_ok ?_
  simp only [wL0, wLc, true_and, w1, lg0, lgi, lgr, lgl, w74]
  by_cases c3 : b < 0
  · refine b2Y c3 ?_
    exact bad (fun ⟨p, q, c, x, y, z, u, v⟩ => by rw [y] at c3; exact lt0 (by omega) c3)
  refine b2N c3 ?_
  obtain ⟨c, hc, rfl⟩ := ge0 c1
  obtain ⟨p, hp, rfl⟩ := ge0 c2
  obtain ⟨q, hq, rfl⟩ := ge0 c3
  refine PW_blk okM_copy 11 rfl SpM_ok ?_
  simp only [wL0, wLc, true_and, w1, lg0, lgi, lgr, lgl, w2, w35, kM0, rM21, kM14, nM14, w39, w12, w82, eq_true hvj, clj, hNj.1]
  rw [sub_lt hp hNj2 hc]
  by_cases c4 : nv (σ.1 14) j < p + c
  · refine b2Y c4 ?_
    refine bad (fun ⟨p', q', c', x, y, z, u, v⟩ => ?_)
    rw [nI_eq_iff hp (by omega)] at x
    rw [nI_eq_iff hc (by omega)] at z
    omega
  refine b2N c4 ?_
  refine PW_blk okM_copy 12 rfl SpM_ok ?_
  simp only [wL0, wLc, true_and, w1, lg0, lgi, lgr, lgl, w2, w35, kM0, rM21, kM14, nM14, w39, w12, w83, eq_true hvl, cll, hNl.1]
  rw [sub_lt hq hNl2 hc]
  by_cases c5 : nv (σ.1 14) l < q + c
  · refine b3Y c5 ?_
    refine bad (fun ⟨p', q', c', x, y, z, u, v⟩ => ?_)
    rw [nI_eq_iff hq (by omega)] at y
    rw [nI_eq_iff hc (by omega)] at z
    omega
  refine b3N c5 ?_
  have h5 := h5 p q c hw ew3 rfl rfl rfl (by omega) (by omega)
  have eJ : ∀ i, (40 : Int32) * nI j + nI p + nI i = nI (40 * j + p + i) := fun i => by rw [show (40 : Int32) = nI 40 from rfl, pk_mul, nI_add, nI_add]
  have eL : ∀ i, (40 : Int32) * nI l + nI q + nI i = nI (40 * l + q + i) := fun i => by rw [show (40 : Int32) = nI 40 from rfl, pk_mul, nI_add, nI_add]
  refine PW_blk okM_copy 14 rfl SpM_ok ?_
  simp only [wL0, wLc, true_and, w0, w4, ls00, ls0i, ls0r, ls0l, lsi, lsr, lsl, Option.map_some, w71]
  have key := lp_up (n := c) (P := fun i => ∀ r, (∀ u, u < i → r u = σ.1 15 (40 * j + p + u)) → PW 1 ev mM_copy 115 [.ref 0, .int (nI j), .int (nI p), .int (nI l), .int (nI q), .int (nI c), .int (nI i)] [] (sr σ 16 r) K) ?_ ?_ 0 (Nat.zero_le _) (σ.1 16) (fun u h => absurd h (Nat.not_lt_zero u))
  · rw [sr_self] at key
    exact key
  · intro r hr
    refine PW_blk okM_copy 15 rfl SpM_ok ?_
    simp only [wL0, wLc, true_and, w1, lg0, lgi, lgr, lgl, w81]
    refine b3N (nI_nlt (Nat.le_refl _) (by omega)) ?_
    refine PW_blk okM_copy 17 rfl SpM_ok ?_
    simp only [wL0, wLc, true_and, w0, w4, ls00, ls0i, ls0r, ls0l, lsi, lsr, lsl, Option.map_some, w71]
    have k2 := lp_up (n := c) (P := fun i => PW 1 ev mM_copy 152 [.ref 0, .int (nI j), .int (nI p), .int (nI l), .int (nI q), .int (nI c), .int (nI i)] [] (sr (sr σ 16 r) 15 (cpC (σ.1 15) (σ.1 15) (40 * l + q) (40 * j + p) i)) K) ?_ ?_ 0 (Nat.zero_le _)
    · rw [cpC_0, sr_eq (σ := sr σ 16 r) (by rw [n16_15])] at k2
      exact k2
    · refine PW_blk okM_copy 18 rfl SpM_ok ?_
      simp only [wL0, wLc, true_and, w1, lg0, lgi, lgr, lgl, w81]
      refine b3N (nI_nlt (Nat.le_refl _) (by omega)) ?_
      refine PW_blk okM_copy 20 rfl SpM_ok ?_
      simp only [wL0, wLc, true_and, w1, lg0, lgi, lgr, lgl, w84]
      exact h5 r
    · intro i hi ih
      have hv : vp_in (nI i) 40 := vp_in_nI (by omega) (by decide)
      have cl : (nI i).toNatClampNeg = i := nI_clamp (by omega)
      have hv2 : vp_in (nI (40 * l + q + i)) 160 := vp_in_nI (by omega) (by decide)
      have cl2 : (nI (40 * l + q + i)).toNatClampNeg = 40 * l + q + i := nI_clamp (by omega)
      refine PW_blk okM_copy 18 rfl SpM_ok ?_
      simp only [wL0, wLc, true_and, w1, lg0, lgi, lgr, lgl, w81]
      refine b3Y (nI_lt hi (by omega)) ?_
      refine PW_blk okM_copy 19 rfl SpM_ok ?_
      simp only [wL0, wLc, true_and, w2, lg0, lgi, lgr, lgl, w35, kM0, rM22, kM15, nM15, w0, w1, w13, w11, rM23, kM16, nM16, w39, w40, w7, ls00, ls0i, ls0r, ls0l, lsi, lsr, lsl, Option.map_some, w70, eL i, eq_true hv, eq_true hv2, cl, cl2, n15_16, sr1, hr i hi, si_sr, cpC_s]
      rw [show (1 : Int32) = nI 1 from rfl, nI_add]
      exact ih
  · intro i hi ih r hr
    have hv : vp_in (nI i) 40 := vp_in_nI (by omega) (by decide)
    have cl : (nI i).toNatClampNeg = i := nI_clamp (by omega)
    have hv2 : vp_in (nI (40 * j + p + i)) 160 := vp_in_nI (by omega) (by decide)
    have cl2 : (nI (40 * j + p + i)).toNatClampNeg = 40 * j + p + i := nI_clamp (by omega)
    refine PW_blk okM_copy 15 rfl SpM_ok ?_
    simp only [wL0, wLc, true_and, w1, lg0, lgi, lgr, lgl, w81]
    refine b3Y (nI_lt hi (by omega)) ?_
    refine PW_blk okM_copy 16 rfl SpM_ok ?_
    simp only [wL0, wLc, true_and, w2, lg0, lgi, lgr, lgl, w35, kM0, rM23, kM16, nM16, w1, rM22, kM15, nM15, w0, w13, w11, w39, w40, w7, ls00, ls0i, ls0r, ls0l, lsi, lsr, lsl, Option.map_some, w70, eJ i, eq_true hv, eq_true hv2, cl, cl2, n16_15, si_sr]
    rw [show (1 : Int32) = nI 1 from rfl, nI_add]
    refine ih _ (fun u hu => ?_)
    by_cases e : u = i
    · subst e; exact updS
    · rw [updN e]; exact hr u (by omega)
end MP
