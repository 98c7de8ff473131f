/-! the class's chest, told by S -/
def XC (σ : St2) (c : Nat) (S : Nat → Int32) : Prop := (σ.1 c 3 = S 3 ∧ σ.1 c 4 = S 2 ∧ σ.1 c 5 = S 0 ∧ σ.1 c 6 = S 1 ∧ σ.1 c 7 = S 9) ∧ (∀ j, j < 5 → σ.1 (c + 12) j = S (4 + j)) ∧ (∀ i, i < 10 → σ.1 (c + 13) i = S (110 + i)) ∧ ∀ k f, k < nv S 3 → f < 10 → σ.1 (c + 2 + f) k = S (tr k f)
theorem XC_cong {σ σ' : St2} {c : Nat} {S : Nat → Int32} (h : ∀ i, c ≤ i → i ≤ c + 13 → σ'.1 i = σ.1 i) (hX : XC σ c S) : XC σ' c S := by
  obtain ⟨a, b, d, e⟩ := hX
  unfold XC
  rw [h c (by omega) (by omega), h (c + 12) (by omega) (by omega), h (c + 13) (by omega) (by omega)]
  refine ⟨a, b, d, fun k f hk hf => ?_⟩
  rw [h (c + 2 + f) (by omega) (by omega)]
  exact e k f hk hf
theorem XC_S {σ : St2} {c : Nat} {S S' : Nat → Int32} (h : ∀ i, i < 120 → S' i = S i) (hn : nv S 3 ≤ 10) (hX : XC σ c S) : XC σ c S' := by
  obtain ⟨⟨a1, a2, a3, a4, a5⟩, b, d, e⟩ := hX
  have e3 : nv S' 3 = nv S 3 := by unfold nv; rw [h 3 (by decide)]
  refine ⟨⟨by rw [h 3 (by decide)]; exact a1, by rw [h 2 (by decide)]; exact a2, by rw [h 0 (by decide)]; exact a3, by rw [h 1 (by decide)]; exact a4, by rw [h 9 (by decide)]; exact a5⟩, fun j hj => by rw [h _ (by omega)]; exact b j hj, fun i hi => by rw [h _ (by omega)]; exact d i hi, fun k f hk hf => ?_⟩
  rw [e3] at hk
  rw [h _ (by unfold tr; omega)]
  exact e k f hk hf
theorem bit1 {o k : Nat} (ho : o < 2 ^ 31) (hk : k < 31) : nI o >>> (nI k &&& 31) &&& 1 = if o.testBit k then 1 else 0 := by
  rw [nI_shr ho hk, nI_and1]
  have hb : o.testBit k = decide (o / 2 ^ k % 2 = 1) := by rw [Nat.testBit_eq_decide_div_mod_eq]
  rw [hb]
  rcases Nat.mod_two_eq_zero_or_one (o / 2 ^ k) with h | h <;> rw [h] <;> decide
theorem bN1 {c : Prop} [Decidable c] {p q : Prop} (hc : ¬ c) (hp : p) : ((if c then (1 : Int32) else 0) = 0 → p) ∧ (¬ (if c then (1 : Int32) else 0) = 0 → q) := bN (if_neg hc) hp
theorem bY1 {c : Prop} [Decidable c] {p q : Prop} (hc : c) (hq : q) : ((if c then (1 : Int32) else 0) = 0 → p) ∧ (¬ (if c then (1 : Int32) else 0) = 0 → q) := bY (if_pos hc) hq
theorem dN1 {c : Prop} [Decidable c] {p q : Prop} (hc : ¬ c) (hq : q) : (¬ (if c then (1 : Int32) else 0) = 0 → p) ∧ ((if c then (1 : Int32) else 0) = 0 → q) := dN (if_neg hc) hq
theorem dY1 {c : Prop} [Decidable c] {p q : Prop} (hc : c) (hp : p) : (¬ (if c then (1 : Int32) else 0) = 0 → p) ∧ ((if c then (1 : Int32) else 0) = 0 → q) := dY (if_pos hc) hp
theorem v10 {k : Nat} (h : k < 10) : vp_in (nI k) 10 = True := eq_true (vp_in_nI h (by decide))
theorem c10 {k : Nat} (h : k < 10) : (nI k).toNatClampNeg = k := nI_clamp (by omega)
theorem hasS {n : Nat} {v : Int32} (hn : n ≤ 10) (h : ∃ k, k < n ∧ v = nI k) : hasF (nI n) 10 v = 1 := hasY (m := 10) hn (by decide) h
theorem hasS' {n : Nat} {v : Int32} (hn : n ≤ 10) (h : ¬ ∃ k, k < n ∧ v = nI k) : hasF (nI n) 10 v = 0 := hasN (m := 10) hn (by decide) h
section CX
variable {σ : St2} {c : Nat} {S : Nat → Int32}
theorem x3 (hX : XC σ c S) (hI : Inv S) : σ.1 c 3 = nI (nv S 3) := hX.1.1.trans hI.1.1
theorem x4 (hX : XC σ c S) (hI : Inv S) : σ.1 c 4 = nI (nv S 2) := hX.1.2.1.trans hI.2.1.1.1
theorem x5 (hX : XC σ c S) (hI : Inv S) : σ.1 c 5 = nI (nv S 0) := hX.1.2.2.1.trans hI.2.2.1.1
theorem xr0 (hX : XC σ c S) : σ.1 (c + 12) 0 = S 4 := hX.2.1 0 (by decide)
theorem xr1 (hX : XC σ c S) (hI : Inv S) : σ.1 (c + 12) 1 = nI (nv S 5) := (hX.2.1 1 (by decide)).trans hI.2.2.2.2.1.1
theorem xr2 (hX : XC σ c S) : σ.1 (c + 12) 2 = S 6 := hX.2.1 2 (by decide)
theorem xr3 (hX : XC σ c S) : σ.1 (c + 12) 3 = S 7 := hX.2.1 3 (by decide)
theorem xr4 (hX : XC σ c S) : σ.1 (c + 12) 4 = S 8 := hX.2.1 4 (by decide)
theorem xt0 (hX : XC σ c S) {k : Nat} (hk : k < nv S 3) : σ.1 (c + 2) k = S (tr k 0) := hX.2.2.2 k 0 hk (by decide)
theorem xt1 (hX : XC σ c S) {k : Nat} (hk : k < nv S 3) : σ.1 (c + 3) k = S (tr k 1) := hX.2.2.2 k 1 hk (by decide)
theorem xt2 (hX : XC σ c S) {k : Nat} (hk : k < nv S 3) : σ.1 (c + 4) k = S (tr k 2) := hX.2.2.2 k 2 hk (by decide)
theorem xt3 (hX : XC σ c S) {k : Nat} (hk : k < nv S 3) : σ.1 (c + 5) k = S (tr k 3) := hX.2.2.2 k 3 hk (by decide)
theorem xt4 (hX : XC σ c S) {k : Nat} (hk : k < nv S 3) : σ.1 (c + 6) k = S (tr k 4) := hX.2.2.2 k 4 hk (by decide)
theorem xt5 (hX : XC σ c S) {k : Nat} (hk : k < nv S 3) : σ.1 (c + 7) k = S (tr k 5) := hX.2.2.2 k 5 hk (by decide)
theorem xt6 (hX : XC σ c S) {k : Nat} (hk : k < nv S 3) : σ.1 (c + 8) k = S (tr k 6) := hX.2.2.2 k 6 hk (by decide)
theorem xt7 (hX : XC σ c S) {k : Nat} (hk : k < nv S 3) : σ.1 (c + 9) k = S (tr k 7) := hX.2.2.2 k 7 hk (by decide)
theorem xt8 (hX : XC σ c S) {k : Nat} (hk : k < nv S 3) : σ.1 (c + 10) k = S (tr k 8) := hX.2.2.2 k 8 hk (by decide)
theorem xt9 (hX : XC σ c S) {k : Nat} (hk : k < nv S 3) : σ.1 (c + 11) k = S (tr k 9) := hX.2.2.2 k 9 hk (by decide)
end CX
section CY
variable {ev : EV} {σ : St2} {K : PO} {c : Nat} {S : Nat → Int32}
theorem X_slackAt {o : Nat} (hc : CH c) (hX : XC σ c S) (hI : Inv S) (ho : o < 1024) (hk : K (some (.int (nI (slackN S o)))) σ) : Rn 0 ev mC_slackAt [.ref c, .int (nI o)] σ K := by
  have hn10 := hI.1.2
  refine Rn_V (by decide) (rcC hc) rfl rfl ?_
  refine PW_blk okC_slackAt 0 rfl SpX_ok ?_
  simp only [wL0, wLc, true_and, w2, lg0, lgi, lgr, lgl, w35, CH_k hc, CH_r1 hc, CH_ru hc, CH_run hc, w0, w39, w4, ls00, ls0i, ls0r, ls0l, lsi, lsr, lsl, Option.map_some, tn0, vi0_5, tn1, vi1_5, w71, xr1 hX hI]
  have key := lp_up (n := nv S 3) (P := fun k => PW 0 ev mC_slackAt 9 [.ref c, .int (nI o), .int (nI (slU S o k)), .int (nI k)] [] σ K) ?_ ?_ 0 (Nat.zero_le _)
  · exact key
  · refine PW_blk okC_slackAt 1 rfl SpX_ok ?_
    simp only [wL0, wLc, true_and, w1, lg0, lgi, lgr, lgl, w2, w33, CH_k hc, w81, x3 hX hI]
    refine b3N (nI_nlt (Nat.le_refl _) (by omega)) ?_
    refine PW_blk okC_slackAt 6 rfl SpX_ok ?_
    simp only [wL0, wLc, true_and, w1, lg0, lgi, lgr, lgl, w84]
    exact hk
  · intro k hkn ih
    have hk10 : k < 10 := by omega
    have hK := hI.2.2.2.2.2.2.2.2.1 k hkn
    have e1 : slU S o (k + 1) = slU S o k + (if o.testBit k then nv S (tr k 2) else 0) := rfl
    rw [e1] at ih
    refine PW_blk okC_slackAt 1 rfl SpX_ok ?_
    simp only [wL0, wLc, true_and, w1, lg0, lgi, lgr, lgl, w2, w33, CH_k hc, w81, x3 hX hI]
    refine b3Y (nI_lt hkn (by omega)) ?_
    refine PW_blk okC_slackAt 2 rfl SpX_ok ?_
    simp only [wL0, wLc, true_and, w1, lg0, lgi, lgr, lgl, w0, w81]
    refine b3Y (nI_lt hk10 (by decide)) ?_
    refine PW_blk okC_slackAt 3 rfl SpX_ok ?_
    simp only [wL0, wLc, true_and, w1, lg0, lgi, lgr, lgl, w20, w0, w16, w72]
    rw [bit1 (by omega) (by omega)]
    by_cases hb : o.testBit k = true
    · rw [if_pos hb] at ih
      refine bY1 hb ?_
      refine PW_blk okC_slackAt 4 rfl SpX_ok ?_
      simp only [wL0, wLc, true_and, w1, lg0, lgi, lgr, lgl, w2, w35, CH_k hc, CH_r0 hc, CH_t hc, CH_tn hc, w0, w42, w39, w11, w4, ls00, ls0i, ls0r, ls0l, lsi, lsr, lsl, Option.map_some, tn2, vi2_10, CH_f2 hc, CH_a2 hc, CH_n2 hc, w71, v10 hk10, c10 hk10, xt2 hX hkn, hK.2.2.1.1]
      refine PW_blk okC_slackAt 5 rfl SpX_ok ?_
      simp only [wL0, wLc, true_and, w7, lg0, lgi, lgr, lgl, ls00, ls0i, ls0r, ls0l, lsi, lsr, lsl, Option.map_some, w70]
      rw [show (1 : Int32) = nI 1 from rfl, nI_add, nI_add]
      exact ih
    · rw [if_neg hb] at ih
      refine bN1 hb ?_
      refine PW_blk okC_slackAt 5 rfl SpX_ok ?_
      simp only [wL0, wLc, true_and, w7, lg0, lgi, lgr, lgl, ls00, ls0i, ls0r, ls0l, lsi, lsr, lsl, Option.map_some, w70]
      rw [show (1 : Int32) = nI 1 from rfl, nI_add]
      exact ih
theorem X_freeAt {o : Nat} (hc : CH c) (hX : XC σ c S) (hI : Inv S) (ho : o < 1024) (hk : K (some (.int (nI (frN S o)))) σ) : Rn 0 ev mC_freeAt [.ref c, .int (nI o)] σ K := by
  have hn10 := hI.1.2
  refine Rn_V (by decide) (rcC hc) rfl rfl ?_
  refine PW_blk okC_freeAt 0 rfl SpX_ok ?_
  simp only [wL0, wLc, true_and, w0, w4, ls00, ls0i, ls0r, ls0l, lsi, lsr, lsl, Option.map_some, w71]
  have key := lp_up (n := nv S 3) (P := fun k => PW 0 ev mC_freeAt 4 [.ref c, .int (nI o), .int (nI (bdU S o k)), .int (nI k)] [] σ K) ?_ ?_ 0 (Nat.zero_le _)
  · exact key
  · refine PW_blk okC_freeAt 1 rfl SpX_ok ?_
    simp only [wL0, wLc, true_and, w1, lg0, lgi, lgr, lgl, w2, w33, CH_k hc, w81, x3 hX hI]
    refine b3N (nI_nlt (Nat.le_refl _) (by omega)) ?_
    refine PW_blk okC_freeAt 6 rfl SpX_ok ?_
    simp only [wL0, wLc, true_and, w0, w1, lg0, lgi, lgr, lgl, w18, w16, w84]
    rw [fr_and _ (bdU_lt hI o _ (Nat.le_refl _))]
    exact hk
  · intro k hkn ih
    have hk10 : k < 10 := by omega
    have hK := hI.2.2.2.2.2.2.2.2.1 k hkn
    have e1 : bdU S o (k + 1) = bdU S o k ||| (if o.testBit k then 0 else nv S (tr k 4)) := rfl
    rw [e1] at ih
    refine PW_blk okC_freeAt 1 rfl SpX_ok ?_
    simp only [wL0, wLc, true_and, w1, lg0, lgi, lgr, lgl, w2, w33, CH_k hc, w81, x3 hX hI]
    refine b3Y (nI_lt hkn (by omega)) ?_
    refine PW_blk okC_freeAt 2 rfl SpX_ok ?_
    simp only [wL0, wLc, true_and, w1, lg0, lgi, lgr, lgl, w0, w81]
    refine b3Y (nI_lt hk10 (by decide)) ?_
    refine PW_blk okC_freeAt 3 rfl SpX_ok ?_
    simp only [wL0, wLc, true_and, w1, lg0, lgi, lgr, lgl, w20, w0, w16, w73]
    rw [bit1 (by omega) (by omega)]
    by_cases hb : o.testBit k = true
    · rw [if_pos hb, Nat.or_zero] at ih
      refine dY1 hb ?_
      refine PW_blk okC_freeAt 5 rfl SpX_ok ?_
      simp only [wL0, wLc, true_and, w7, lg0, lgi, lgr, lgl, ls00, ls0i, ls0r, ls0l, lsi, lsr, lsl, Option.map_some, w70]
      rw [show (1 : Int32) = nI 1 from rfl, nI_add]
      exact ih
    · rw [if_neg hb] at ih
      refine dN1 hb ?_
      refine PW_blk okC_freeAt 4 rfl SpX_ok ?_
      simp only [wL0, wLc, true_and, w1, lg0, lgi, lgr, lgl, w2, w35, CH_k hc, CH_r0 hc, CH_t hc, CH_tn hc, w0, w42, w39, w17, w4, ls00, ls0i, ls0r, ls0l, lsi, lsr, lsl, Option.map_some, tn4, vi4_10, CH_f4 hc, CH_a4 hc, CH_n4 hc, w71, v10 hk10, c10 hk10, xt4 hX hkn, hK.2.2.2.2.1.1]
      refine PW_blk okC_freeAt 5 rfl SpX_ok ?_
      simp only [wL0, wLc, true_and, w7, lg0, lgi, lgr, lgl, ls00, ls0i, ls0r, ls0l, lsi, lsr, lsl, Option.map_some, w70]
      rw [show (1 : Int32) = nI 1 from rfl, nI_add, fa_or]
      exact ih
theorem X_reason {k o : Nat} {sl hd : Int32} (hc : CH c) (hX : XC σ c S) (hI : Inv S) (ho : o < 1024) (hkn : k < nv S 3) (hk : K (some (.int (whyF S k o sl hd))) σ) : Rn 0 ev mC_reason [.ref c, .int (nI k), .int (nI o), .int sl, .int hd] σ K := by
  have hn10 := hI.1.2
  have hk10 : k < 10 := by omega
  have hK := hI.2.2.2.2.2.2.2.2.1 k hkn
  unfold whyF at hk
  refine Rn_V (by decide) (rcC hc) rfl rfl ?_
  refine PW_blk okC_reason 0 rfl SpX_ok ?_
  simp only [wL0, wLc, true_and, w2, lg0, lgi, lgr, lgl, w1, w54_2, q40, q41, q42, q43, q44, Option.toList_some, Option.toList_none, List.cons_append, List.nil_append, xp_C_has, CH_e hc, w72, x3 hX hI, hasS hn10 ⟨k, hkn, rfl⟩]
  refine bY rfl ?_
  refine PW_blk okC_reason 1 rfl SpX_ok ?_
  simp only [wL0, wLc, true_and, w1, lg0, lgi, lgr, lgl, w20, w0, w16, w72]
  rw [bit1 (by omega) (by omega)]
  by_cases hb : o.testBit k = true
  · rw [if_pos hb] at hk
    refine bY1 hb ?_
    refine PW_blk okC_reason 2 rfl SpX_ok ?_
    simp only [wL0, wLc, true_and, w0, w84]
    exact hk
  rw [if_neg hb] at hk
  refine bN1 hb ?_
  refine PW_blk okC_reason 3 rfl SpX_ok ?_
  simp only [wL0, wLc, true_and, w1, lg0, lgi, lgr, lgl, w2, w35, CH_k hc, CH_r0 hc, CH_t hc, CH_tn hc, w0, w42, w39, tn3, vi3_10, CH_f3 hc, CH_a3 hc, CH_n3 hc, w81, v10 hk10, c10 hk10, xt3 hX hkn]
  by_cases h1 : sl < S (tr k 3)
  · rw [if_pos h1] at hk
    refine b3Y h1 ?_
    refine PW_blk okC_reason 4 rfl SpX_ok ?_
    simp only [wL0, wLc, true_and, w0, w84]
    exact hk
  rw [if_neg h1] at hk
  refine b3N h1 ?_
  refine PW_blk okC_reason 5 rfl SpX_ok ?_
  simp only [wL0, wLc, true_and, w1, lg0, lgi, lgr, lgl, w2, w35, CH_k hc, CH_r0 hc, CH_t hc, CH_tn hc, w0, w42, w39, tn5, vi5_10, CH_f5 hc, CH_a5 hc, CH_n5 hc, w81, v10 hk10, c10 hk10, xt5 hX hkn]
  by_cases h2 : hd < S (tr k 5)
  · rw [if_pos h2] at hk
    refine b3Y h2 ?_
    refine PW_blk okC_reason 6 rfl SpX_ok ?_
    simp only [wL0, wLc, true_and, w0, w84]
    exact hk
  rw [if_neg h2] at hk
  refine b3N h2 ?_
  have k81 : ∀ tl, (K (some (.int (if ¬ (S (tr k 8) &&& (nI o ^^^ -1) = 0) then 5 else if ¬ (S (tr k 9) &&& (((1 : Int32) <<< (nI k &&& 31)) ^^^ -1) &&& nI o = 0) then 6 else 0))) σ) → PW 0 ev mC_reason 81 [.ref c, .int (nI k), .int (nI o), .int sl, .int hd, .int tl] [] σ K := by
    intro tl hk
    refine PW_blk okC_reason 10 rfl SpX_ok ?_
    simp only [wL0, wLc, true_and, w2, lg0, lgi, lgr, lgl, w35, CH_k hc, CH_r0 hc, CH_t hc, CH_tn hc, w0, w42, w1, w39, w18, w16, tn8, vi8_10, CH_f8 hc, CH_a8 hc, CH_n8 hc, w72, v10 hk10, c10 hk10, xt8 hX hkn]
    by_cases h3 : S (tr k 8) &&& (nI o ^^^ -1) = 0
    rotate_left
    · rw [if_pos h3] at hk
      refine b2N h3 ?_
      refine PW_blk okC_reason 11 rfl SpX_ok ?_
      simp only [wL0, wLc, true_and, w0, w84]
      exact hk
    rw [if_neg (Decidable.not_not.mpr h3)] at hk
    refine b2Y h3 ?_
    refine PW_blk okC_reason 12 rfl SpX_ok ?_
    simp only [wL0, wLc, true_and, w2, lg0, lgi, lgr, lgl, w35, CH_k hc, CH_r0 hc, CH_t hc, CH_tn hc, w0, w42, w1, w39, w19, w18, w16, tn1, vi1_10, CH_f1 hc, CH_a1 hc, CH_n1 hc, tn9, vi9_10, CH_f9 hc, CH_a9 hc, CH_n9 hc, w72, v10 hk10, c10 hk10, xt9 hX hkn]
    by_cases h4 : S (tr k 9) &&& (((1 : Int32) <<< (nI k &&& 31)) ^^^ -1) &&& nI o = 0
    · rw [if_neg (Decidable.not_not.mpr h4)] at hk
      refine b2Y h4 ?_
      refine PW_blk okC_reason 14 rfl SpX_ok ?_
      simp only [wL0, wLc, true_and, w0, w71]
      refine PW_blk okC_reason 15 rfl SpX_ok ?_
      simp only [wL0, w84]
      exact hk
    · rw [if_pos h4] at hk
      refine b2N h4 ?_
      refine PW_blk okC_reason 13 rfl SpX_ok ?_
      simp only [wL0, wLc, true_and, w0, w70]
      refine PW_blk okC_reason 15 rfl SpX_ok ?_
      simp only [wL0, w84]
      exact hk
  have hT := hK.2.2.2.2.2.2.1
  have hTl := hT.2
  have hTo := hI.2.2.2.1
  have hTol := hTo.2
  refine PW_blk okC_reason 7 rfl SpX_ok ?_
  simp only [wL0, wLc, true_and, w2, lg0, lgi, lgr, lgl, w35, CH_k hc, CH_r0 hc, CH_t hc, CH_tn hc, w0, w42, w1, w39, w4, ls00, ls0i, ls0r, ls0l, lsi, lsr, lsl, Option.map_some, tn6, vi6_10, CH_f6 hc, CH_a6 hc, CH_n6 hc, w77, v10 hk10, c10 hk10, xt6 hX hkn]
  by_cases h3 : 0 < S (tr k 6)
  rotate_left
  · rw [if_neg (fun z => h3 z.1)] at hk
    exact b3N h3 (k81 _ hk)
  refine b3Y h3 ?_
  have hpos : 0 < nv S (tr k 6) := by
    rw [hT.1, show (0 : Int32) = nI 0 from rfl, nI_lt_iff (by decide) (by omega)] at h3
    exact h3
  have em : S (tr k 6) - 1 = nI (nv S (tr k 6) - 1) := by rw [hT.1, show (1 : Int32) = nI 1 from rfl, pk_sub (by omega)]
  have ein : isInF (S 4) (S (tr k 6) - 1) = if (nv S 4).testBit (nv S (tr k 6) - 1) then 1 else 0 := by
    rw [hTo.1, em, isInF_n (by omega) (by omega)]
  rw [ein] at hk
  refine PW_blk okC_reason 8 rfl SpX_ok ?_
  simp only [wL0, wLc, true_and, w2, lg0, lgi, lgr, lgl, w35, CH_k hc, CH_r1 hc, CH_ru hc, CH_run hc, w0, w39, w1, w12, w20, w16, tn0, vi0_5, tn1, vi1_5, w73, xr0 hX, em, hTo.1]
  rw [bit1 (by omega) (by omega)]
  by_cases h4 : (nv S 4).testBit (nv S (tr k 6) - 1) = true
  · rw [if_neg (fun z => z.2 (if_pos h4))] at hk
    exact dY1 h4 (k81 _ hk)
  · rw [if_pos ⟨h3, fun z => by rw [if_neg h4] at z; exact absurd z (by decide)⟩] at hk
    refine dN1 h4 ?_
    refine PW_blk okC_reason 9 rfl SpX_ok ?_
    simp only [wL0, wLc, true_and, w0, w84]
    exact hk
theorem X_mayWith {o : Nat} (hc : CH c) (hX : XC σ c S) (hI : Inv S) (ho : o < 1024) (hk : K (some (.int (nI (mayN S o)))) σ) : Rn 0 ev mC_mayWith [.ref c, .int (nI o), .int (nI (slackN S o)), .int (nI (hdN S o))] σ K := by
  have hn10 := hI.1.2
  refine Rn_V (by decide) (rcC hc) rfl rfl ?_
  refine PW_blk okC_mayWith 0 rfl SpX_ok ?_
  simp only [wL0, wLc, true_and, w0, w4, ls00, ls0i, ls0r, ls0l, lsi, lsr, lsl, Option.map_some, w71]
  have key := lp_up (n := nv S 3) (P := fun k => PW 0 ev mC_mayWith 6 [.ref c, .int (nI o), .int (nI (slackN S o)), .int (nI (hdN S o)), .int (nI (mayU S o k)), .int (nI k)] [] σ K) ?_ ?_ 0 (Nat.zero_le _)
  · exact key
  · refine PW_blk okC_mayWith 1 rfl SpX_ok ?_
    simp only [wL0, wLc, true_and, w1, lg0, lgi, lgr, lgl, w2, w33, CH_k hc, w81, x3 hX hI]
    refine b3N (nI_nlt (Nat.le_refl _) (by omega)) ?_
    refine PW_blk okC_mayWith 6 rfl SpX_ok ?_
    simp only [wL0, wLc, true_and, w1, lg0, lgi, lgr, lgl, w84]
    exact hk
  · intro k hkn ih
    have hk10 : k < 10 := by omega
    have e1 : mayU S o (k + 1) = mayU S o k ||| (if whyF S k o (nI (slackN S o)) (nI (hdN S o)) = 0 then 2 ^ k else 0) := rfl
    rw [e1] at ih
    refine PW_blk okC_mayWith 1 rfl SpX_ok ?_
    simp only [wL0, wLc, true_and, w1, lg0, lgi, lgr, lgl, w2, w33, CH_k hc, w81, x3 hX hI]
    refine b3Y (nI_lt hkn (by omega)) ?_
    refine PW_blk okC_mayWith 2 rfl SpX_ok ?_
    simp only [wL0, wLc, true_and, w1, lg0, lgi, lgr, lgl, w0, w81]
    refine b3Y (nI_lt hk10 (by decide)) ?_
    refine PW_blk okC_mayWith 3 rfl SpX_ok ?_
    simp only [wL0, wLc, true_and, w2, lg0, lgi, lgr, lgl, w1, w54_5, q40, q41, q42, q43, q44, Option.toList_some, Option.toList_none, List.cons_append, List.nil_append, w73]
    refine X_reason hc hX hI ho hkn ?_
    simp only [wL0, wLc, true_and, w2, lg0, lgi, lgr, lgl, w1, w54_5, q40, q41, q42, q43, q44, Option.toList_some, Option.toList_none, List.cons_append, List.nil_append, w73]
    by_cases h : whyF S k o (nI (slackN S o)) (nI (hdN S o)) = 0
    · rw [if_pos h] at ih
      refine dN h ?_
      refine PW_blk okC_mayWith 4 rfl SpX_ok ?_
      simp only [wL0, wLc, true_and, w1, lg0, lgi, lgr, lgl, w0, w19, w17, w4, ls00, ls0i, ls0r, ls0l, lsi, lsr, lsl, Option.map_some, w71, nI_sh1 k (by omega), fa_or]
      refine PW_blk okC_mayWith 5 rfl SpX_ok ?_
      simp only [wL0, wLc, true_and, w7, lg0, lgi, lgr, lgl, ls00, ls0i, ls0r, ls0l, lsi, lsr, lsl, Option.map_some, w70]
      rw [show (1 : Int32) = nI 1 from rfl, nI_add]
      exact ih
    · rw [if_neg h, Nat.or_zero] at ih
      refine ⟨fun _ => ?_, fun z => absurd z h⟩
      refine PW_blk okC_mayWith 5 rfl SpX_ok ?_
      simp only [wL0, wLc, true_and, w7, lg0, lgi, lgr, lgl, ls00, ls0i, ls0r, ls0l, lsi, lsr, lsl, Option.map_some, w70]
      rw [show (1 : Int32) = nI 1 from rfl, nI_add]
      exact ih
theorem X_mayAt {o : Nat} (hc : CH c) (hX : XC σ c S) (hI : Inv S) (ho : o < 1024) (hk : K (some (.int (nI (mayN S o)))) σ) : Rn 0 ev mC_mayAt [.ref c, .int (nI o)] σ K := by
  refine Rn_V (by decide) (rcC hc) rfl rfl ?_
  refine PW_blk okC_mayAt 0 rfl SpX_ok ?_
  simp only [wL0, wLc, true_and, w2, lg0, lgi, lgr, lgl, w1, w54_2, q40, q41, q42, q43, q44, Option.toList_some, Option.toList_none, List.cons_append, List.nil_append, w55_1, xp_JI_bitCount, w54_4, w84]
  refine X_slackAt hc hX hI ho ?_
  simp only [wL0, wLc, true_and, w2, lg0, lgi, lgr, lgl, w1, w54_2, q40, q41, q42, q43, q44, Option.toList_some, Option.toList_none, List.cons_append, List.nil_append, w55_1, xp_JI_bitCount, w54_4, w84]
  refine X_freeAt hc hX hI ho ?_
  simp only [wL0, wLc, true_and, w2, lg0, lgi, lgr, lgl, w1, w54_2, q40, q41, q42, q43, q44, Option.toList_some, Option.toList_none, List.cons_append, List.nil_append, w55_1, xp_JI_bitCount, w54_4, w84, bcF_n (frN S o) (by have := frN_lt S o; omega)]
  refine X_mayWith hc hX hI ho ?_
  simp only [wL0, wLc, true_and, w2, lg0, lgi, lgr, lgl, w1, w54_2, q40, q41, q42, q43, q44, Option.toList_some, Option.toList_none, List.cons_append, List.nil_append, w55_1, xp_JI_bitCount, w54_4, w84]
  exact hk
theorem X_reasonNow {k : Nat} (hc : CH c) (hX : XC σ c S) (hI : Inv S) (hkn : k < nv S 3) (hk : K (some (.int (whyF S k (nv S 2) (nI (slackN S (nv S 2))) (nI (hdN S (nv S 2)))))) σ) : Rn 0 ev mC_reasonNow [.ref c, .int (nI k)] σ K := by
  have hlt : nv S 2 < 1024 := by have := hI.2.1.1.2; omega
  refine Rn_V (by decide) (rcC hc) rfl rfl ?_
  refine PW_blk okC_reasonNow 0 rfl SpX_ok ?_
  simp only [wL0, wLc, true_and, w2, lg0, lgi, lgr, lgl, w1, w33, CH_k hc, w54_2, q40, q41, q42, q43, q44, Option.toList_some, Option.toList_none, List.cons_append, List.nil_append, w55_1, xp_JI_bitCount, w54_5, w84, x4 hX hI]
  refine X_slackAt hc hX hI hlt ?_
  simp only [wL0, wLc, true_and, w2, lg0, lgi, lgr, lgl, w1, w33, CH_k hc, w54_2, q40, q41, q42, q43, q44, Option.toList_some, Option.toList_none, List.cons_append, List.nil_append, w55_1, xp_JI_bitCount, w54_5, w84, x4 hX hI]
  refine X_freeAt hc hX hI hlt ?_
  simp only [wL0, wLc, true_and, w2, lg0, lgi, lgr, lgl, w1, w33, CH_k hc, w54_2, q40, q41, q42, q43, q44, Option.toList_some, Option.toList_none, List.cons_append, List.nil_append, w55_1, xp_JI_bitCount, w54_5, w84, bcF_n (frN S (nv S 2)) (by have := frN_lt S (nv S 2); omega)]
  refine X_reason hc hX hI hlt hkn ?_
  simp only [wL0, wLc, true_and, w2, lg0, lgi, lgr, lgl, w1, w33, CH_k hc, w54_2, q40, q41, q42, q43, q44, Option.toList_some, Option.toList_none, List.cons_append, List.nil_append, w55_1, xp_JI_bitCount, w54_5, w84]
  exact hk
theorem X_takes {k o : Nat} (hc : CH c) (hX : XC σ c S) (hI : Inv S) (ho : o < 1024) (hkn : k < nv S 3) (hk : K (some (.int (nI (takesN S k o)))) σ) : Rn 0 ev mC_takes [.ref c, .int (nI k), .int (nI (slackN S o)), .int (nI (hdN S o)), .int (nI (pcn o))] σ K := by
  have hn10 := hI.1.2
  have hk10 : k < 10 := by omega
  obtain ⟨hK0, ⟨hK1, hK1'⟩, -⟩ := hI.2.2.2.2.2.2.2.2.1 k hkn
  have ht60 := hK1.2
  have hsl := slack_le hI o
  have hp := pcn_le o
  have hhd := hdN_le S o
  unfold takesN at hk
  dsimp only at hk
  refine Rn_V (by decide) (rcC hc) rfl rfl ?_
  refine PW_blk okC_takes 0 rfl SpX_ok ?_
  simp only [wL0, wLc, true_and, w1, lg0, lgi, lgr, lgl, w74]
  refine b2N (lt0 (by omega)) ?_
  refine PW_blk okC_takes 1 rfl SpX_ok ?_
  simp only [wL0, wLc, true_and, w1, lg0, lgi, lgr, lgl, w0, w80]
  refine b2Y (nI_lt hk10 (by decide)) ?_
  generalize hkd : nv S (tr k 0) = kd at hk
  have hkd6 : kd ≤ 6 := by rw [← hkd]; exact hK0.2
  have eK0 : S (tr k 0) = nI kd := by rw [hK0.1, hkd]
  have fin : ∀ rope old : Nat, rope = (if slackN S o < nv S (tr k 1) then nv S (tr k 1) - slackN S o else 1) → old = (if 1 < nv S (tr k 1) + 3 * pcn o then (nv S (tr k 1) + 3 * pcn o) / 2 else 1) → PW 0 ev mC_takes 61 [.ref c, .int (nI k), .int (nI (slackN S o)), .int (nI (hdN S o)), .int (nI (pcn o)), .int (nI (nv S (tr k 1))), .int (nI rope), .int (nI (nv S (tr k 1) + 3 * pcn o))] [.int (nI old)] σ K := by
    intro rope old h1 h2
    rw [← h1, ← h2] at hk
    refine PW_blk okC_takes 9 rfl SpX_ok ?_
    simp only [wL0, wLc, true_and, w4, ls00, ls0i, ls0r, ls0l, lsi, lsr, lsl, Option.map_some, w2, lg0, lgi, lgr, lgl, w35, CH_k hc, CH_r0 hc, CH_t hc, CH_tn hc, w0, w42, w1, w39, tn0, vi0_10, CH_f0 hc, CH_a0 hc, CH_n0 hc, w90, wS0, wSc, v10 hk10, c10 hk10, xt0 hX hkn, eK0]
    rcases (show kd = 0 ∨ kd = 1 ∨ kd = 2 ∨ kd = 3 ∨ kd = 4 ∨ kd = 5 ∨ kd = 6 by omega) with rfl | rfl | rfl | rfl | rfl | rfl | rfl
    · skip
      refine ⟨fun h => absurd h (by decide), fun _ => ?_⟩
      refine ⟨fun h => absurd h (by decide), fun _ => ?_⟩
      refine ⟨fun h => absurd h (by decide), fun _ => ?_⟩
      refine ⟨fun h => absurd h (by decide), fun _ => ?_⟩
      refine ⟨fun h => absurd h (by decide), fun _ => ?_⟩
      refine ⟨fun h => absurd h (by decide), fun _ => ?_⟩
      refine PW_blk okC_takes 19 rfl SpX_ok ?_
      simp only [wL0, wLc, true_and, w1, lg0, lgi, lgr, lgl, w84]
      exact hk
    · refine ⟨fun _ => ?_, fun h => absurd rfl h⟩
      refine PW_blk okC_takes 10 rfl SpX_ok ?_
      simp only [wL0, wLc, true_and, w1, lg0, lgi, lgr, lgl, w84]
      exact hk
    · refine ⟨fun h => absurd h (by decide), fun _ => ?_⟩
      refine ⟨fun _ => ?_, fun h => absurd rfl h⟩
      refine PW_blk okC_takes 12 rfl SpX_ok ?_
      simp only [wL0, wLc, true_and, w1, lg0, lgi, lgr, lgl, w84]
      exact hk
    · skip
      refine ⟨fun h => absurd h (by decide), fun _ => ?_⟩
      refine ⟨fun h => absurd h (by decide), fun _ => ?_⟩
      refine ⟨fun _ => ?_, fun h => absurd rfl h⟩
      refine PW_blk okC_takes 13 rfl SpX_ok ?_
      simp only [wL0, wLc, true_and, w1, lg0, lgi, lgr, lgl, w84]
      exact hk
    · skip
      refine ⟨fun h => absurd h (by decide), fun _ => ?_⟩
      refine ⟨fun h => absurd h (by decide), fun _ => ?_⟩
      refine ⟨fun h => absurd h (by decide), fun _ => ?_⟩
      refine ⟨fun _ => ?_, fun h => absurd rfl h⟩
      refine PW_blk okC_takes 14 rfl SpX_ok ?_
      simp only [wL0, wLc, true_and, w1, lg0, lgi, lgr, lgl, w0, w11, w84]
      rw [show (4 : Int32) = nI 4 from rfl, nI_add]
      exact hk
    · skip
      refine ⟨fun h => absurd h (by decide), fun _ => ?_⟩
      refine ⟨fun h => absurd h (by decide), fun _ => ?_⟩
      refine ⟨fun h => absurd h (by decide), fun _ => ?_⟩
      refine ⟨fun h => absurd h (by decide), fun _ => ?_⟩
      refine ⟨fun _ => ?_, fun h => absurd rfl h⟩
      refine PW_blk okC_takes 11 rfl SpX_ok ?_
      simp only [wL0, wLc, true_and, w1, lg0, lgi, lgr, lgl, w0, w11, w84]
      rw [show (2 : Int32) = nI 2 from rfl, nI_add]
      exact hk
    · skip
      refine ⟨fun h => absurd h (by decide), fun _ => ?_⟩
      refine ⟨fun h => absurd h (by decide), fun _ => ?_⟩
      refine ⟨fun h => absurd h (by decide), fun _ => ?_⟩
      refine ⟨fun h => absurd h (by decide), fun _ => ?_⟩
      refine ⟨fun h => absurd h (by decide), fun _ => ?_⟩
      refine ⟨fun _ => ?_, fun h => absurd rfl h⟩
      refine PW_blk okC_takes 15 rfl SpX_ok ?_
      simp only [wL0, wLc, true_and, w1, lg0, lgi, lgr, lgl, w0, w81]
      rw [show (2 : Int32) = nI 2 from rfl, nI_lt_iff (by omega) (by decide)]
      have hk : K (some (.int (nI (if hdN S o < 2 then 2 * nv S (tr k 1) else nv S (tr k 1))))) σ := hk
      by_cases h2 : hdN S o < 2
      · rw [if_pos h2] at hk
        refine b3Y h2 ?_
        refine PW_blk okC_takes 16 rfl SpX_ok ?_
        simp only [wL0, wLc, true_and, w0, w1, lg0, lgi, lgr, lgl, w13, w70]
        refine PW_blk okC_takes 18 rfl SpX_ok ?_
        simp only [wL0, w84]
        rw [show (2 : Int32) = nI 2 from rfl, pk_mul]
        exact hk
      · rw [if_neg h2] at hk
        refine b3N h2 ?_
        refine PW_blk okC_takes 17 rfl SpX_ok ?_
        simp only [wL0, wLc, true_and, w1, lg0, lgi, lgr, lgl, w71]
        refine PW_blk okC_takes 18 rfl SpX_ok ?_
        simp only [wL0, w84]
        exact hk
  have mid : ∀ rope : Nat, rope = (if slackN S o < nv S (tr k 1) then nv S (tr k 1) - slackN S o else 1) → PW 0 ev mC_takes 36 [.ref c, .int (nI k), .int (nI (slackN S o)), .int (nI (hdN S o)), .int (nI (pcn o)), .int (nI (nv S (tr k 1)))] [.int (nI rope)] σ K := by
    intro rope h1
    have e3 : nI (nv S (tr k 1)) + 3 * nI (pcn o) = nI (nv S (tr k 1) + 3 * pcn o) := by rw [show (3 : Int32) = nI 3 from rfl, pk_mul, nI_add]
    refine PW_blk okC_takes 6 rfl SpX_ok ?_
    simp only [wL0, wLc, true_and, w4, ls00, ls0i, ls0r, ls0l, lsi, lsr, lsl, Option.map_some, w1, lg0, lgi, lgr, lgl, w0, w13, w11, w83, e3]
    rw [show (1 : Int32) = nI 1 from rfl, nI_lt_iff (by decide) (by omega)]
    by_cases h : 1 < nv S (tr k 1) + 3 * pcn o
    · refine b3Y h ?_
      refine PW_blk okC_takes 7 rfl SpX_ok ?_
      simp only [wL0, wLc, true_and, w1, lg0, lgi, lgr, lgl, w0, w14, w70]
      refine ⟨by decide, ?_⟩
      rw [show (2 : Int32) = nI 2 from rfl, pk_div (by omega) (by decide) (by decide)]
      exact fin rope _ h1 (if_pos h).symm
    · refine b3N h ?_
      refine PW_blk okC_takes 8 rfl SpX_ok ?_
      simp only [wL0, wLc, true_and, w0, w71]
      exact fin rope 1 h1 (if_neg h).symm
  refine PW_blk okC_takes 3 rfl SpX_ok ?_
  simp only [wL0, wLc, true_and, w2, lg0, lgi, lgr, lgl, w35, CH_k hc, CH_r0 hc, CH_t hc, CH_tn hc, w0, w42, w1, w39, w4, ls00, ls0i, ls0r, ls0l, lsi, lsr, lsl, Option.map_some, tn1, vi1_10, CH_f1 hc, CH_a1 hc, CH_n1 hc, w83, v10 hk10, c10 hk10, xt1 hX hkn, hK1.1]
  rw [nI_lt_iff (by omega) (by omega)]
  by_cases h : slackN S o < nv S (tr k 1)
  · refine b3Y h ?_
    refine PW_blk okC_takes 4 rfl SpX_ok ?_
    simp only [wL0, wLc, true_and, w1, lg0, lgi, lgr, lgl, w12, w70]
    rw [pk_sub (by omega)]
    exact mid _ (if_pos h).symm
  · refine b3N h ?_
    refine PW_blk okC_takes 5 rfl SpX_ok ?_
    simp only [wL0, wLc, true_and, w0, w71]
    exact mid 1 (if_neg h).symm
theorem X_takesNow {k : Nat} (hc : CH c) (hX : XC σ c S) (hI : Inv S) (hkn : k < nv S 3) (hk : K (some (.int (nI (takesN S k (nv S 2))))) σ) : Rn 0 ev mC_takesNow [.ref c, .int (nI k)] σ K := by
  have hlt : nv S 2 < 1024 := by have := hI.2.1.1.2; omega
  refine Rn_V (by decide) (rcC hc) rfl rfl ?_
  refine PW_blk okC_takesNow 0 rfl SpX_ok ?_
  simp only [wL0, wLc, true_and, w2, lg0, lgi, lgr, lgl, w1, w33, CH_k hc, w54_2, q40, q41, q42, q43, q44, Option.toList_some, Option.toList_none, List.cons_append, List.nil_append, w55_1, xp_JI_bitCount, w54_5, w84, x4 hX hI]
  refine X_slackAt hc hX hI hlt ?_
  simp only [wL0, wLc, true_and, w2, lg0, lgi, lgr, lgl, w1, w33, CH_k hc, w54_2, q40, q41, q42, q43, q44, Option.toList_some, Option.toList_none, List.cons_append, List.nil_append, w55_1, xp_JI_bitCount, w54_5, w84, x4 hX hI]
  refine X_freeAt hc hX hI hlt ?_
  simp only [wL0, wLc, true_and, w2, lg0, lgi, lgr, lgl, w1, w33, CH_k hc, w54_2, q40, q41, q42, q43, q44, Option.toList_some, Option.toList_none, List.cons_append, List.nil_append, w55_1, xp_JI_bitCount, w54_5, w84, x4 hX hI, bcF_n (frN S (nv S 2)) (by have := frN_lt S (nv S 2); omega), bcF_n (nv S 2) hlt]
  refine X_takes hc hX hI hlt hkn ?_
  simp only [wL0, wLc, true_and, w2, lg0, lgi, lgr, lgl, w1, w33, CH_k hc, w54_2, q40, q41, q42, q43, q44, Option.toList_some, Option.toList_none, List.cons_append, List.nil_append, w55_1, xp_JI_bitCount, w54_5, w84]
  exact hk
theorem X_sounds {k : Nat} (hc : CH c) (hX : XC σ c S) (hI : Inv S) (hkn : k < nv S 3) (hk : K (some (.int (nI (soundN S k)))) σ) : Rn 0 ev mC_sounds [.ref c, .int (nI k)] σ K := by
  have hn10 := hI.1.2
  have hk10 : k < 10 := by omega
  obtain ⟨hK0, ⟨hK1, hK1'⟩, -⟩ := hI.2.2.2.2.2.2.2.2.1 k hkn
  have ht60 := hK1.2
  unfold soundN at hk
  dsimp only at hk
  refine Rn_V (by decide) (rcC hc) rfl rfl ?_
  refine PW_blk okC_sounds 0 rfl SpX_ok ?_
  simp only [wL0, wLc, true_and, w2, lg0, lgi, lgr, lgl, w1, w54_2, q40, q41, q42, q43, q44, Option.toList_some, Option.toList_none, List.cons_append, List.nil_append, xp_C_has, CH_e hc, w73, x3 hX hI, hasS hn10 ⟨k, hkn, rfl⟩]
  refine ⟨fun _ => ?_, fun h => absurd h (by decide)⟩
  generalize hkd : nv S (tr k 0) = kd at hk
  have hkd6 : kd ≤ 6 := by rw [← hkd]; exact hK0.2
  have eK0 : S (tr k 0) = nI kd := by rw [hK0.1, hkd]
  refine PW_blk okC_sounds 2 rfl SpX_ok ?_
  simp only [wL0, wLc, true_and, w2, lg0, lgi, lgr, lgl, w35, CH_k hc, CH_r0 hc, CH_t hc, CH_tn hc, w0, w42, w1, w39, w14, w4, ls00, ls0i, ls0r, ls0l, lsi, lsr, lsl, Option.map_some, tn0, vi0_10, CH_f0 hc, CH_a0 hc, CH_n0 hc, tn1, vi1_10, CH_f1 hc, CH_a1 hc, CH_n1 hc, tn2, vi2_10, CH_f2 hc, CH_a2 hc, CH_n2 hc, w90, wS0, wSc, v10 hk10, c10 hk10, xt1 hX hkn, hK1.1, xt0 hX hkn, eK0]
  refine ⟨by decide, ?_⟩
  rw [show (2 : Int32) = nI 2 from rfl, pk_div (by omega) (by decide) (by decide)]
  rcases (show kd = 0 ∨ kd = 1 ∨ kd = 2 ∨ kd = 3 ∨ kd = 4 ∨ kd = 5 ∨ kd = 6 by omega) with rfl | rfl | rfl | rfl | rfl | rfl | rfl
  · skip
    refine ⟨fun h => absurd h (by decide), fun _ => ?_⟩
    refine ⟨fun h => absurd h (by decide), fun _ => ?_⟩
    refine ⟨fun h => absurd h (by decide), fun _ => ?_⟩
    refine ⟨fun h => absurd h (by decide), fun _ => ?_⟩
    refine ⟨fun h => absurd h (by decide), fun _ => ?_⟩
    refine PW_blk okC_sounds 8 rfl SpX_ok ?_
    simp only [wL0, wLc, true_and, w0, w84]
    exact hk
  · refine ⟨fun _ => ?_, fun h => absurd rfl h⟩
    refine PW_blk okC_sounds 3 rfl SpX_ok ?_
    simp only [wL0, wLc, true_and, w0, w84]
    exact hk
  · refine ⟨fun h => absurd h (by decide), fun _ => ?_⟩
    refine ⟨fun _ => ?_, fun h => absurd rfl h⟩
    refine PW_blk okC_sounds 5 rfl SpX_ok ?_
    simp only [wL0, wLc, true_and, w1, lg0, lgi, lgr, lgl, w84]
    exact hk
  · skip
    refine ⟨fun h => absurd h (by decide), fun _ => ?_⟩
    refine ⟨fun h => absurd h (by decide), fun _ => ?_⟩
    refine ⟨fun _ => ?_, fun h => absurd rfl h⟩
    refine PW_blk okC_sounds 6 rfl SpX_ok ?_
    simp only [wL0, wLc, true_and, w1, lg0, lgi, lgr, lgl, w0, w11, w84]
    rw [show (1 : Int32) = nI 1 from rfl, nI_add]
    exact hk
  · skip
    refine ⟨fun h => absurd h (by decide), fun _ => ?_⟩
    refine ⟨fun h => absurd h (by decide), fun _ => ?_⟩
    refine ⟨fun h => absurd h (by decide), fun _ => ?_⟩
    refine ⟨fun _ => ?_, fun h => absurd rfl h⟩
    refine PW_blk okC_sounds 7 rfl SpX_ok ?_
    simp only [wL0, wLc, true_and, w0, w1, lg0, lgi, lgr, lgl, w11, w13, w84]
    rw [show (1 : Int32) = nI 1 from rfl, nI_add, show (2 : Int32) = nI 2 from rfl, pk_mul]
    exact hk
  · skip
    refine ⟨fun h => absurd h (by decide), fun _ => ?_⟩
    refine ⟨fun h => absurd h (by decide), fun _ => ?_⟩
    refine ⟨fun h => absurd h (by decide), fun _ => ?_⟩
    refine ⟨fun h => absurd h (by decide), fun _ => ?_⟩
    refine ⟨fun _ => ?_, fun h => absurd rfl h⟩
    refine PW_blk okC_sounds 4 rfl SpX_ok ?_
    simp only [wL0, wLc, true_and, w0, w84]
    exact hk
  · skip
    refine ⟨fun h => absurd h (by decide), fun _ => ?_⟩
    refine ⟨fun h => absurd h (by decide), fun _ => ?_⟩
    refine ⟨fun h => absurd h (by decide), fun _ => ?_⟩
    refine ⟨fun h => absurd h (by decide), fun _ => ?_⟩
    refine ⟨fun h => absurd h (by decide), fun _ => ?_⟩
    refine PW_blk okC_sounds 8 rfl SpX_ok ?_
    simp only [wL0, wLc, true_and, w0, w84]
    exact hk
end CY
