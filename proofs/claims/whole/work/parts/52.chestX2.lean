/-! the class's chest: traits, rules, steps, draws, spots -/
theorem sgl : ∀ k, 200 ≤ k → k < 206 → (200 ≤ k ∧ k < 206) = True := fun _ h1 h2 => eq_true ⟨h1, h2⟩
theorem sg200 : (200 ≤ 200 ∧ 200 < 206) = True := eq_true ⟨by decide, by decide⟩
theorem sg201 : (200 ≤ 201 ∧ 201 < 206) = True := eq_true ⟨by decide, by decide⟩
theorem sg202 : (200 ≤ 202 ∧ 202 < 206) = True := eq_true ⟨by decide, by decide⟩
theorem sg203 : (200 ≤ 203 ∧ 203 < 206) = True := eq_true ⟨by decide, by decide⟩
theorem sg205 : (200 ≤ 205 ∧ 205 < 206) = True := eq_true ⟨by decide, by decide⟩
theorem sn200 : (shp 0 200).2 = 10 := rfl
theorem sn201 : (shp 0 201).2 = 10 := rfl
theorem sn202 : (shp 0 202).2 = 10 := rfl
theorem sn203 : (shp 0 203).2 = 5 := rfl
theorem sn205 : (shp 0 205).2 = 7 := rfl
theorem cst200 : ∀ w, w < 10 → cst 200 w = nI (leastN w) := by decide +kernel
theorem cst201 : ∀ w, w < 8 → cst 201 w = nI (mostB w) := by decide +kernel
theorem cst202 : ∀ w, w < 10 → cst 202 w = nI (if w = 1 then 10 else if w = 5 then 1 else 0) := by decide +kernel
theorem cst203 : ∀ w, w < 5 → w ≠ 2 → cst 203 w = nI (if w = 0 then 15 else if w = 1 then 40 else 60) := by decide +kernel
theorem cst205 : ∀ w, w < 7 → cst 205 w = if w = 0 then -1 else nI (upF w) := by decide +kernel
theorem most8 {S : Nat → Int32} {w : Nat} (h : w < 8) : mostN S w = mostB w := by
  unfold mostN mostB
  rcases (show w = 0 ∨ w = 1 ∨ w = 2 ∨ w = 3 ∨ w = 4 ∨ w = 5 ∨ w = 6 ∨ w = 7 by omega) with rfl | rfl | rfl | rfl | rfl | rfl | rfl | rfl <;> rfl
theorem XC_c {σ : St2} {c : Nat} {S S' r : Nat → Int32} (hX : XC σ c S) (h : ∀ i, 3 ≤ i → i ≠ 9 → S' i = S i) (h3 : r 3 = S' 3) (h4 : r 4 = S' 2) (h5 : r 5 = S' 0) (h6 : r 6 = S' 1) (h7 : r 7 = S' 9) : XC (sr σ c r) c S' := by
  obtain ⟨-, b, d, e⟩ := hX
  have e3 : nv S' 3 = nv S 3 := by unfold nv; rw [h 3 (by decide) (by decide)]
  unfold XC
  rw [sr1, sr1n (show c + 12 ≠ c by omega), sr1n (show c + 13 ≠ c by omega), e3]
  refine ⟨⟨h3, h4, h5, h6, h7⟩, fun j hj => by rw [h _ (by omega) (by omega)]; exact b j hj, fun i hi => by rw [h _ (by omega) (by omega)]; exact d i hi, fun k f hk hf => ?_⟩
  rw [sr1n (show c + 2 + f ≠ c by omega), h _ (by unfold tr; omega) (by unfold tr; omega)]
  exact e k f hk hf
theorem XC_r {σ : St2} {c w : Nat} {S : Nat → Int32} {v : Int32} (hw : w < 5) (hX : XC σ c S) : XC (sr σ (c + 12) (upd (σ.1 (c + 12)) w v)) c (upd S (4 + w) v) := by
  obtain ⟨⟨a1, a2, a3, a4, a5⟩, b, d, e⟩ := hX
  unfold XC
  rw [sr1, sr1n (show c ≠ c + 12 by omega), sr1n (show c + 13 ≠ c + 12 by omega), nv_ne (by omega), updN (by omega), updN (by omega), updN (by omega), updN (by omega), updN (by omega)]
  refine ⟨⟨a1, a2, a3, a4, a5⟩, fun j hj => ?_, fun i hi => by rw [updN (by omega)]; exact d i hi, fun k f hk hf => ?_⟩
  · by_cases z : j = w
    · subst z; rw [updS, updS]
    · rw [updN z, updN (by omega)]; exact b j hj
  · rw [sr1n (show c + 2 + f ≠ c + 12 by omega), updN (by unfold tr; omega)]
    exact e k f hk hf
theorem XC_t {σ : St2} {c k w : Nat} {S : Nat → Int32} {v : Int32} (hw : w < 10) (hk : k < 10) (hX : XC σ c S) : XC (sr σ (c + 2 + w) (upd (σ.1 (c + 2 + w)) k v)) c (upd S (tr k w) v) := by
  obtain ⟨⟨a1, a2, a3, a4, a5⟩, b, d, e⟩ := hX
  have ne : ∀ i, i < 10 → i ≠ tr k w := fun i hi => by unfold tr; omega
  unfold XC
  rw [sr1n (show c ≠ c + 2 + w by omega), sr1n (show c + 12 ≠ c + 2 + w by omega), sr1n (show c + 13 ≠ c + 2 + w by omega), nv_ne (ne 3 (by decide)), updN (ne 3 (by decide)), updN (ne 2 (by decide)), updN (ne 0 (by decide)), updN (ne 1 (by decide)), updN (ne 9 (by decide))]
  refine ⟨⟨a1, a2, a3, a4, a5⟩, fun j hj => by rw [updN (ne _ (by omega))]; exact b j hj, fun i hi => by rw [updN (by unfold tr; omega)]; exact d i hi, fun q f hq hf => ?_⟩
  by_cases z : f = w
  · subst z
    rw [sr1]
    by_cases z2 : q = k
    · subst z2; rw [updS, updS]
    · rw [updN z2, updN (fun y => z2 (tr_inj hf hw y).1)]
      exact e q f hq hf
  · rw [sr1n (show c + 2 + f ≠ c + 2 + w by omega), updN (fun y => z (tr_inj hf hw y).2)]
    exact e q f hq hf
theorem XC_p {σ : St2} {c i : Nat} {S : Nat → Int32} {v : Int32} (hi : i < 10) (hn : nv S 3 ≤ 10) (hX : XC σ c S) : XC (sr σ (c + 13) (upd (σ.1 (c + 13)) i v)) c (upd S (110 + i) v) := by
  obtain ⟨⟨a1, a2, a3, a4, a5⟩, b, d, e⟩ := hX
  unfold XC
  rw [sr1, sr1n (show c ≠ c + 13 by omega), sr1n (show c + 12 ≠ c + 13 by omega), nv_ne (by omega), updN (by omega), updN (by omega), updN (by omega), updN (by omega), updN (by omega)]
  refine ⟨⟨a1, a2, a3, a4, a5⟩, fun j hj => by rw [updN (by omega)]; exact b j hj, fun q hq => ?_, fun k f hk hf => ?_⟩
  · by_cases z : q = i
    · subst z; rw [updS, updS]
    · rw [updN z, updN (by omega)]; exact d q hq
  · rw [sr1n (show c + 2 + f ≠ c + 13 by omega), updN (by unfold tr; omega)]
    exact e k f hk hf
theorem pcn_nth : ∀ m, m < 1024 → ∀ n, n < pcn m → m.testBit (nthF m n) = true ∧ pcU m (nthF m n) = n := by decide +kernel
theorem pcU_mono (m : Nat) {a b : Nat} (h : a ≤ b) : pcU m a ≤ pcU m b := by
  induction b with
  | zero => rw [show a = 0 by omega]; exact Nat.le_refl _
  | succ b ih =>
    by_cases e : a = b + 1
    · rw [e]; exact Nat.le_refl _
    · exact Nat.le_trans (ih (by omega)) (Nat.le_add_right _ _)
theorem nth_u {m n k : Nat} (hm : m < 1024) (hn : n < pcn m) (hb : m.testBit k = true) (hp : pcU m k = n) : k = nthF m n := by
  obtain ⟨q1, q2⟩ := pcn_nth m hm n hn
  have s1 : pcU m (k + 1) = n + 1 := by unfold pcU; rw [if_pos hb, hp]
  have s2 : pcU m (nthF m n + 1) = n + 1 := by unfold pcU; rw [if_pos q1, q2]
  rcases Nat.lt_trichotomy k (nthF m n) with z | z | z
  · have := pcU_mono m (show k + 1 ≤ nthF m n by omega); omega
  · exact z
  · have := pcU_mono m (show nthF m n + 1 ≤ k by omega); omega
section CZ
variable {ev : EV} {σ : St2} {K : PO} {c : Nat} {S : Nat → Int32}
theorem CH_fw (hc : CH c) {w : Nat} (hw : w < 10) : rfs 0 (c + 1) w = c + 2 + w := (CH_a hc w hw).2.2
theorem CH_aw (hc : CH c) {w : Nat} (hw : w < 10) : (c + 2 + w < nC 0 ∧ (shp 0 (c + 2 + w)).1 = 100) = True := (CH_a hc w hw).1
theorem CH_nw (hc : CH c) {w : Nat} (hw : w < 10) : (shp 0 (c + 2 + w)).2 = 10 := (CH_a hc w hw).2.1
theorem X_trait {k w : Nat} (hc : CH c) (hX : XC σ c S) (hI : Inv S) (hkn : k < nv S 3) (hw : w < 10) (hk : K (some (.int (S (tr k w)))) σ) : Rn 0 ev mC_trait [.ref c, .int (nI w), .int (nI k)] σ K := by
  have hn10 := hI.1.2
  have hk10 : k < 10 := by omega
  refine Rn_V (by decide) (rcC hc) rfl rfl ?_
  refine PW_blk okC_trait 0 rfl SpX_ok ?_
  simp only [wL0, wLc, true_and, w1, lg0, lgi, lgr, lgl, w55_1, q40, q41, q42, q43, q44, Option.toList_some, Option.toList_none, List.cons_append, List.nil_append, xp_C_isTrait, w72]
  refine bY (in0Y (m := 10) (by decide) ⟨w, hw, rfl⟩) ?_
  refine PW_blk okC_trait 1 rfl SpX_ok ?_
  simp only [wL0, wLc, true_and, w2, lg0, lgi, lgr, lgl, w1, w54_2, q40, q41, q42, q43, q44, Option.toList_some, Option.toList_none, List.cons_append, List.nil_append, xp_C_has, CH_e hc, w72, x3 hX hI, hasS hn10 ⟨k, hkn, rfl⟩]
  refine bY rfl ?_
  refine PW_blk okC_trait 2 rfl SpX_ok ?_
  simp only [wL0, wLc, true_and, w2, lg0, lgi, lgr, lgl, w35, CH_k hc, CH_r0 hc, CH_t hc, CH_tn hc, w1, w42, w39, w70, v10 hk10, c10 hk10, v10 hw, c10 hw, CH_fw hc hw, CH_aw hc hw, CH_nw hc hw, hX.2.2.2 k w hkn hw]
  refine PW_blk okC_trait 4 rfl SpX_ok ?_
  simp only [wL0, w84]
  exact hk
theorem X_trait0 {w : Nat} {v : Int32} (hc : CH c) (hX : XC σ c S) (hI : Inv S) (h : ¬ hasL S v) (hw : w < 10) (hk : K (some (.int 0)) σ) : Rn 0 ev mC_trait [.ref c, .int (nI w), .int v] σ K := by
  have hn10 := hI.1.2
  refine Rn_V (by decide) (rcC hc) rfl rfl ?_
  refine PW_blk okC_trait 0 rfl SpX_ok ?_
  simp only [wL0, wLc, true_and, w1, lg0, lgi, lgr, lgl, w55_1, q40, q41, q42, q43, q44, Option.toList_some, Option.toList_none, List.cons_append, List.nil_append, xp_C_isTrait, w72]
  refine bY (in0Y (m := 10) (by decide) ⟨w, hw, rfl⟩) ?_
  refine PW_blk okC_trait 1 rfl SpX_ok ?_
  simp only [wL0, wLc, true_and, w2, lg0, lgi, lgr, lgl, w1, w54_2, q40, q41, q42, q43, q44, Option.toList_some, Option.toList_none, List.cons_append, List.nil_append, xp_C_has, CH_e hc, w72, x3 hX hI, hasS' hn10 h]
  refine b2Y trivial ?_
  refine PW_blk okC_trait 3 rfl SpX_ok ?_
  simp only [wL0, wLc, true_and, w0, w71]
  refine PW_blk okC_trait 4 rfl SpX_ok ?_
  simp only [wL0, w84]
  exact hk
theorem X_putTrait {k w : Nat} {v : Int32} (hc : CH c) (hX : XC σ c S) (hI : Inv S) (hkn : k < nv S 3) (hw : w < 10) (hk : K (some (.int (S (tr k w)))) (sr σ (c + 2 + w) (upd (σ.1 (c + 2 + w)) k v))) : Rn 0 ev mC_putTrait [.ref c, .int (nI w), .int (nI k), .int v] σ K := by
  have hn10 := hI.1.2
  have hk10 : k < 10 := by omega
  refine Rn_V (by decide) (rcC hc) rfl rfl ?_
  refine PW_blk okC_putTrait 0 rfl SpX_ok ?_
  simp only [wL0, wLc, true_and, w1, lg0, lgi, lgr, lgl, w55_1, q40, q41, q42, q43, q44, Option.toList_some, Option.toList_none, List.cons_append, List.nil_append, xp_C_isTrait, w72]
  refine bY (in0Y (m := 10) (by decide) ⟨w, hw, rfl⟩) ?_
  refine PW_blk okC_putTrait 1 rfl SpX_ok ?_
  simp only [wL0, wLc, true_and, w2, lg0, lgi, lgr, lgl, w1, w54_2, q40, q41, q42, q43, q44, Option.toList_some, Option.toList_none, List.cons_append, List.nil_append, xp_C_has, CH_e hc, w73, x3 hX hI, hasS hn10 ⟨k, hkn, rfl⟩]
  refine dY rfl ?_
  refine PW_blk okC_putTrait 3 rfl SpX_ok ?_
  simp only [wL0, wLc, true_and, w2, lg0, lgi, lgr, lgl, w35, CH_k hc, CH_r0 hc, CH_t hc, CH_tn hc, w1, w42, w39, w4, ls00, ls0i, ls0r, ls0l, lsi, lsr, lsl, Option.map_some, w40, w84, v10 hk10, c10 hk10, v10 hw, c10 hw, CH_fw hc hw, CH_aw hc hw, CH_nw hc hw, hX.2.2.2 k w hkn hw, si_is]
  exact hk
theorem X_allows {what v : Int32} (hc : CH c) (hX : XC σ c S) (hI : Inv S) (h0 : (¬ ∃ w n, w ≤ 9 ∧ what = nI w ∧ leastN w ≤ n ∧ n ≤ mostN S w ∧ v = nI n) → K (some (.int 0)) σ) (h1 : ∀ w n, w ≤ 9 → what = nI w → leastN w ≤ n → n ≤ mostN S w → v = nI n → K (some (.int 1)) σ) : Rn 0 ev mC_allows [.ref c, .int what, .int v] σ K := by
  have hn10 := hI.1.2
  have hp2 := p2le _ hn10
  refine Rn_V (by decide) (rcC hc) rfl rfl ?_
  refine PW_blk okC_allows 0 rfl SpX_ok ?_
  simp only [wL0, wLc, true_and, w1, lg0, lgi, lgr, lgl, w55_1, q40, q41, q42, q43, q44, Option.toList_some, Option.toList_none, List.cons_append, List.nil_append, xp_C_isTrait, w73]
  by_cases hw : ∃ w, w < 10 ∧ what = nI w
  rotate_left
  · refine dN (in0N (m := 10) (by decide) hw) ?_
    refine PW_blk okC_allows 1 rfl SpX_ok ?_
    simp only [wL0, wLc, true_and, w0, w85]
    exact ⟨Or.inl trivial, h0 (fun ⟨w, n, a, b, _⟩ => hw ⟨w, by omega, b⟩)⟩
  refine dY (in0Y (m := 10) (by decide) hw) ?_
  obtain ⟨w, hw10, rfl⟩ := hw
  have hml := mostN_lt (S := S) (w := w) hn10
  have hll := least_lt w
  have fin : PW 0 ev mC_allows 33 [.ref c, .int (nI w), .int v] [.int (nI (mostN S w))] σ K := by
    refine PW_blk okC_allows 6 rfl SpX_ok ?_
    simp only [wL0, wLc, true_and, w4, ls00, ls0i, ls0r, ls0l, lsi, lsr, lsl, Option.map_some, w1, lg0, lgi, lgr, lgl, w45, w44, w80, sg200, sn200, v10 hw10, c10 hw10, cst200 w hw10]
    have no : (¬ ∃ n, leastN w ≤ n ∧ n ≤ mostN S w ∧ v = nI n) → PW 0 ev mC_allows 52 [.ref c, .int (nI w), .int v, .int (nI (mostN S w))] [] σ K := by
      intro z
      refine PW_blk okC_allows 9 rfl SpX_ok ?_
      simp only [wL0, wLc, true_and, w0, w71]
      refine PW_blk okC_allows 10 rfl SpX_ok ?_
      simp only [wL0, w85]
      refine ⟨Or.inl trivial, h0 (fun ⟨w', n, a, b, d, e, f⟩ => z ⟨n, ?_⟩)⟩
      have e2 : w = w' := (nI_eq_iff (by omega) (by omega)).mp b
      subst e2
      exact ⟨d, e, f⟩
    by_cases hv : rgI v (leastN w) (mostN S w)
    · have hv' := hv
      obtain ⟨n, d, e, rfl⟩ := hv'
      refine b2N (nI_nlt d (by omega)) ?_
      refine PW_blk okC_allows 7 rfl SpX_ok ?_
      simp only [wL0, wLc, true_and, w1, lg0, lgi, lgr, lgl, w82]
      refine b2N (nI_nlt e (by omega)) ?_
      refine PW_blk okC_allows 8 rfl SpX_ok ?_
      simp only [wL0, wLc, true_and, w0, w70]
      refine PW_blk okC_allows 10 rfl SpX_ok ?_
      simp only [wL0, w85]
      exact ⟨Or.inr trivial, h1 w n (by omega) rfl d e rfl⟩
    · by_cases a1 : v < nI (leastN w)
      · exact b2Y a1 (no hv)
      refine b2N a1 ?_
      refine PW_blk okC_allows 7 rfl SpX_ok ?_
      simp only [wL0, wLc, true_and, w1, lg0, lgi, lgr, lgl, w82]
      by_cases a2 : nI (mostN S w) < v
      · exact b2Y a2 (no hv)
      exfalso
      have := in1N (v := v) (a := leastN w) (m := mostN S w) (by omega) (by omega) hv
      unfold in1F at this
      rw [if_neg a1, if_neg a2] at this
      exact absurd this (by decide)
  refine PW_blk okC_allows 2 rfl SpX_ok ?_
  simp only [wL0, wLc, true_and, w1, lg0, lgi, lgr, lgl, w0, w78]
  rw [show (8 : Int32) = nI 8 from rfl, nI_eq_iff (by omega) (by decide)]
  have all : (w = 8 ∨ w = 9) → PW 0 ev mC_allows 21 [.ref c, .int (nI w), .int v] [] σ K := by
    intro z
    have e : mostN S w = 2 ^ nv S 3 - 1 := by
      rcases z with rfl | rfl <;> rfl
    rw [e] at fin
    refine PW_blk okC_allows 4 rfl SpX_ok ?_
    simp only [wL0, wLc, true_and, w2, lg0, lgi, lgr, lgl, w54_1, q40, q41, q42, q43, q44, Option.toList_some, Option.toList_none, List.cons_append, List.nil_append, xp_C_allLocks, CH_e hc, w70, x3 hX hI, alF_n _ (show nv S 3 < 31 by omega)]
    exact fin
  by_cases c8 : w = 8
  · exact b2Y c8 (all (Or.inl c8))
  refine b2N c8 ?_
  refine PW_blk okC_allows 3 rfl SpX_ok ?_
  simp only [wL0, wLc, true_and, w1, lg0, lgi, lgr, lgl, w0, w79]
  rw [show (9 : Int32) = nI 9 from rfl, nI_eq_iff (by omega) (by decide)]
  by_cases c9 : w = 9
  · exact b3Y c9 (all (Or.inr c9))
  refine b3N c9 ?_
  rw [most8 (show w < 8 by omega)] at fin
  refine PW_blk okC_allows 5 rfl SpX_ok ?_
  simp only [wL0, wLc, true_and, w45, w1, lg0, lgi, lgr, lgl, w44, w71, sg201, sn201, v10 hw10, c10 hw10, cst201 w (by omega)]
  exact fin
theorem v5 {k : Nat} (h : k < 5) : vp_in (nI k) 5 = True := eq_true (vp_in_nI h (by decide))
theorem X_putRule {w : Nat} {v : Int32} (hc : CH c) (hw : w < 5) (hk : K (some (.int (σ.1 (c + 12) w))) (sr σ (c + 12) (upd (σ.1 (c + 12)) w v))) : Rn 0 ev mC_putRule [.ref c, .int (nI w), .int v] σ K := by
  refine Rn_V (by decide) (rcC hc) rfl rfl ?_
  refine PW_blk okC_putRule 0 rfl SpX_ok ?_
  simp only [wL0, wLc, true_and, w1, lg0, lgi, lgr, lgl, w55_1, q40, q41, q42, q43, q44, Option.toList_some, Option.toList_none, List.cons_append, List.nil_append, xp_C_isRule, w73]
  refine dY (in0Y (m := 5) (by decide) ⟨w, hw, rfl⟩) ?_
  refine PW_blk okC_putRule 2 rfl SpX_ok ?_
  simp only [wL0, wLc, true_and, w2, lg0, lgi, lgr, lgl, w35, CH_k hc, CH_r1 hc, CH_ru hc, CH_run hc, w1, w39, w4, ls00, ls0i, ls0r, ls0l, lsi, lsr, lsl, Option.map_some, w40, w84, v5 hw, c10 (show w < 10 by omega), si_is]
  exact hk
theorem X_allowsRule {what v : Int32} (hc : CH c) (hX : XC σ c S) (hI : Inv S) (h0 : (¬ okR S what v) → K (some (.int 0)) σ) (h1 : ∀ w n, w ≤ 4 → what = nI w → n ≤ mostR S w → v = nI n → K (some (.int 1)) σ) : Rn 0 ev mC_allowsRule [.ref c, .int what, .int v] σ K := by
  have hn10 := hI.1.2
  have hp2 := p2le _ hn10
  refine Rn_V (by decide) (rcC hc) rfl rfl ?_
  refine PW_blk okC_allowsRule 0 rfl SpX_ok ?_
  simp only [wL0, wLc, true_and, w1, lg0, lgi, lgr, lgl, w55_1, q40, q41, q42, q43, q44, Option.toList_some, Option.toList_none, List.cons_append, List.nil_append, xp_C_isRule, w73]
  by_cases hw : ∃ w, w < 5 ∧ what = nI w
  rotate_left
  · refine dN (in0N (m := 5) (by decide) hw) ?_
    refine PW_blk okC_allowsRule 1 rfl SpX_ok ?_
    simp only [wL0, wLc, true_and, w0, w85]
    exact ⟨Or.inl trivial, h0 (fun ⟨w, n, a, b, _⟩ => hw ⟨w, by omega, b⟩)⟩
  refine dY (in0Y (m := 5) (by decide) hw) ?_
  obtain ⟨w, hw5, rfl⟩ := hw
  have hml := mostR_lt (S := S) (w := w) hn10
  have fin : PW 0 ev mC_allowsRule 26 [.ref c, .int (nI w), .int v] [.int (nI (mostR S w))] σ K := by
    refine PW_blk okC_allowsRule 5 rfl SpX_ok ?_
    simp only [wL0, wLc, true_and, w4, ls00, ls0i, ls0r, ls0l, lsi, lsr, lsl, Option.map_some, w1, lg0, lgi, lgr, lgl, w74]
    have no : (¬ ∃ n, n ≤ mostR S w ∧ v = nI n) → PW 0 ev mC_allowsRule 40 [.ref c, .int (nI w), .int v, .int (nI (mostR S w))] [] σ K := by
      intro z
      refine PW_blk okC_allowsRule 8 rfl SpX_ok ?_
      simp only [wL0, wLc, true_and, w0, w71]
      refine PW_blk okC_allowsRule 9 rfl SpX_ok ?_
      simp only [wL0, w85]
      refine ⟨Or.inl trivial, h0 (fun ⟨w', n, a, b, e, f⟩ => z ⟨n, ?_⟩)⟩
      have e2 : w = w' := (nI_eq_iff (by omega) (by omega)).mp b
      subst e2
      exact ⟨e, f⟩
    by_cases a1 : v < 0
    · exact b2Y a1 (no (fun ⟨n, z1, z2⟩ => by rw [z2] at a1; exact lt0 (by omega) a1))
    refine b2N a1 ?_
    obtain ⟨n, hn, rfl⟩ := ge0 a1
    refine PW_blk okC_allowsRule 6 rfl SpX_ok ?_
    simp only [wL0, wLc, true_and, w1, lg0, lgi, lgr, lgl, w82]
    rw [nI_lt_iff (by omega) (by omega)]
    by_cases a2 : mostR S w < n
    · refine b2Y a2 (no (fun ⟨n', z1, z2⟩ => ?_))
      rw [nI_eq_iff (by omega) (by omega)] at z2
      omega
    refine b2N a2 ?_
    refine PW_blk okC_allowsRule 7 rfl SpX_ok ?_
    simp only [wL0, wLc, true_and, w0, w70]
    refine PW_blk okC_allowsRule 9 rfl SpX_ok ?_
    simp only [wL0, w85]
    exact ⟨Or.inr trivial, h1 w n (by omega) rfl (by omega) rfl⟩
  refine PW_blk okC_allowsRule 2 rfl SpX_ok ?_
  simp only [wL0, wLc, true_and, w1, lg0, lgi, lgr, lgl, w0, w79]
  rw [show (2 : Int32) = nI 2 from rfl, nI_eq_iff (by omega) (by decide)]
  by_cases c2 : w = 2
  · refine b3Y c2 ?_
    have e : mostR S w = 2 ^ nv S 3 - 1 := by subst c2; rfl
    rw [e] at fin
    refine PW_blk okC_allowsRule 3 rfl SpX_ok ?_
    simp only [wL0, wLc, true_and, w2, lg0, lgi, lgr, lgl, w54_1, q40, q41, q42, q43, q44, Option.toList_some, Option.toList_none, List.cons_append, List.nil_append, xp_C_allLocks, CH_e hc, w70, x3 hX hI, alF_n _ (show nv S 3 < 31 by omega)]
    exact fin
  refine b3N c2 ?_
  have e : mostR S w = if w = 0 then 15 else if w = 1 then 40 else 60 := by
    unfold mostR
    rw [if_neg c2]
  rw [e] at fin
  refine PW_blk okC_allowsRule 4 rfl SpX_ok ?_
  simp only [wL0, wLc, true_and, w45, w1, lg0, lgi, lgr, lgl, w44, w71, sg203, sn203, v5 hw5, c10 (show w < 10 by omega), cst203 w hw5 c2]
  exact fin
theorem X_shutAll (hc : CH c) (hX : XC σ c S) (hI : Inv S) (hk : ∀ r, XC (sr σ c r) c (shS S) → K (some (.int (nI (pcn (nv S 2))))) (sr σ c r)) : Rn 0 ev mC_shutAll [.ref c] σ K := by
  have hlt : nv S 2 < 1024 := by have := hI.2.1.1.2; omega
  refine Rn_V (by decide) (rcC hc) rfl rfl ?_
  refine PW_blk okC_shutAll 0 rfl SpX_ok ?_
  simp only [wL0, wLc, true_and, w2, lg0, lgi, lgr, lgl, w33, CH_k hc, w55_1, q40, q41, q42, q43, q44, Option.toList_some, Option.toList_none, List.cons_append, List.nil_append, xp_JI_bitCount, w4, ls00, ls0i, ls0r, ls0l, lsi, lsr, lsl, Option.map_some, w0, w36, w1, w84, x4 hX hI, bcF_n (nv S 2) hlt, si_is, sr1, sr_sr]
  refine hk _ (XC_c hX (fun i h3 _ => ?_) ?_ ?_ ?_ ?_ ?_)
  · unfold shS; rw [updN (by omega), updN (by omega), updN (by omega)]
  · unfold shS; rw [updN (by decide), updN (by decide), updN (by decide), updN (by decide), updN (by decide), updN (by decide)]; exact hX.1.1
  · unfold shS; rw [updN (by decide), updN (by decide), updS, updN (by decide), updN (by decide), updS]
  · unfold shS; rw [updN (by decide), updS, updN (by decide), updS]
  · unfold shS; rw [updS, updS]
  · unfold shS; rw [updN (by decide), updN (by decide), updN (by decide), updN (by decide), updN (by decide), updN (by decide)]; exact hX.1.2.2.2.2
theorem X_step {k : Nat} (hc : CH c) (hX : XC σ c S) (hI : Inv S) (hkn : k < nv S 3) (hk : ∀ r, XC (sr σ c r) c (stS S k) → K none (sr σ c r)) : Rn 0 ev mC_step [.ref c, .int (nI k)] σ K := by
  have hn10 := hI.1.2
  refine Rn_V (by decide) (rcC hc) rfl rfl ?_
  refine PW_blk okC_step 0 rfl SpX_ok ?_
  simp only [wL0, wLc, true_and, w2, lg0, lgi, lgr, lgl, w1, w54_2, q40, q41, q42, q43, q44, Option.toList_some, Option.toList_none, List.cons_append, List.nil_append, w4, ls00, ls0i, ls0r, ls0l, lsi, lsr, lsl, Option.map_some, w33, CH_k hc, xp_C_playsAt, CH_e hc, w73]
  refine X_takesNow hc hX hI hkn ?_
  simp only [wL0, wLc, true_and, w2, lg0, lgi, lgr, lgl, w1, w54_2, q40, q41, q42, q43, q44, Option.toList_some, Option.toList_none, List.cons_append, List.nil_append, w4, ls00, ls0i, ls0r, ls0l, lsi, lsr, lsl, Option.map_some, w33, CH_k hc, xp_C_playsAt, CH_e hc, w73, xr3 hX, xr4 hX, hX.1.2.2.1]
  have fin : ∀ r : Nat → Int32, r 3 = S 3 → r 4 = S 2 → r 5 = S 0 → r 7 = S 9 → r 6 = S 1 + (if plF (S 7) (S 8) (S 0) = 0 then nI (soundN S k) else 0) → PW 0 ev mC_step 31 [.ref c, .int (nI k), .int (nI (takesN S k (nv S 2)))] [] (sr σ c r) K := by
    intro r r3 r4 r5 r7 r6
    refine PW_blk okC_step 2 rfl SpX_ok ?_
    simp only [wL0, wLc, true_and, w2, lg0, lgi, lgr, lgl, w8i, w8r, w33, CH_k hc, w1, w11, w36, w0, w19, w17, w87, si_is, sr1, sr_sr, updI, r4, r5]
    refine hk _ (XC_c hX (fun i h3 _ => stS_ag i h3) ?_ ?_ ?_ ?_ ?_)
    · rw [updN (by decide), updN (by decide), stS_ag 3 (by decide)]; exact r3
    · rw [updS]; unfold stS; rw [updS]; simp only [show ¬ (4 = 5) by decide, if_false]
    · rw [updN (by decide), updS]; unfold stS; rw [updN (by decide), updS]
    · rw [updN (by decide), updN (by decide), r6, stS_1]
    · rw [updN (by decide), updN (by decide), r7]; exact (stS_ag 9 (by decide)).symm
  rcases plF_01 (S 7) (S 8) (S 0) with h | h
  · refine dN h ?_
    refine PW_blk okC_step 1 rfl SpX_ok ?_
    simp only [wL0, wLc, true_and, w2, lg0, lgi, lgr, lgl, w8i, w8r, w33, CH_k hc, w1, w54_2, q40, q41, q42, q43, q44, Option.toList_some, Option.toList_none, List.cons_append, List.nil_append, w11, w36, w71]
    refine X_sounds hc hX hI hkn ?_
    simp only [wL0, wLc, true_and, w2, lg0, lgi, lgr, lgl, w8i, w8r, w33, CH_k hc, w1, w54_2, q40, q41, q42, q43, q44, Option.toList_some, Option.toList_none, List.cons_append, List.nil_append, w11, w36, w71, si_is]
    refine fin _ ?_ ?_ ?_ ?_ ?_
    · rw [updN (by decide)]; exact hX.1.1
    · rw [updN (by decide)]; exact hX.1.2.1
    · rw [updN (by decide)]; exact hX.1.2.2.1
    · rw [updN (by decide)]; exact hX.1.2.2.2.2
    · rw [updS, if_pos h, hX.1.2.2.2.1]
  · refine dY h ?_
    have e : sr σ c (σ.1 c) = σ := sr_self
    rw [← e]
    refine fin _ hX.1.1 hX.1.2.1 hX.1.2.2.1 hX.1.2.2.2.2 ?_
    rw [if_neg (by rw [h]; decide), hX.1.2.2.2.1, Int32.add_zero]
theorem X_nth {m n : Nat} (hm : m < 1024) (hn : n < pcn m) (hk : K (some (.int (nI (nthF m n)))) σ) : Rn 0 ev mC_nth [.int (nI m), .int (nI n)] σ K := by
  have hp := pcn_le m
  refine Rn_S (by decide) rfl rfl rfl ?_
  refine PW_blk okC_nth 0 rfl SpX_ok ?_
  simp only [wL0, wLc, true_and, w1, lg0, lgi, lgr, lgl, w4, ls00, ls0i, ls0r, ls0l, lsi, lsr, lsl, Option.map_some, w0, w71]
  have key := lp_up (n := 10) (P := fun l => pcU m l ≤ n → PW 0 ev mC_nth 4 [.int (nI m), .int (nI n), .int (nI (n - pcU m l)), .int (nI l)] [] σ K) ?_ ?_ 0 (by decide) (Nat.zero_le _)
  · exact key
  · intro z
    have : pcU m 10 = pcn m := rfl
    omega
  · intro l hl ih hle
    have e1 : pcU m (l + 1) = pcU m l + (if m.testBit l then 1 else 0) := rfl
    rw [e1] at ih
    refine PW_blk okC_nth 1 rfl SpX_ok ?_
    simp only [wL0, wLc, true_and, w1, lg0, lgi, lgr, lgl, w0, w81]
    refine b3Y (nI_lt hl (by decide)) ?_
    refine PW_blk okC_nth 2 rfl SpX_ok ?_
    simp only [wL0, wLc, true_and, w1, lg0, lgi, lgr, lgl, w20, w0, w16, w72]
    rw [bit1 (by omega) (by omega)]
    by_cases hb : m.testBit l = true
    · rw [if_pos hb] at ih
      refine bY1 hb ?_
      refine PW_blk okC_nth 3 rfl SpX_ok ?_
      simp only [wL0, wLc, true_and, w1, lg0, lgi, lgr, lgl, w73]
      rw [nI_z (by omega)]
      by_cases hz : n - pcU m l = 0
      · refine b3Y hz ?_
        refine PW_blk okC_nth 4 rfl SpX_ok ?_
        simp only [wL0, wLc, true_and, w1, lg0, lgi, lgr, lgl, w84]
        rw [nth_u hm hn hb (by omega)]
        exact hk
      · refine b3N hz ?_
        refine PW_blk okC_nth 5 rfl SpX_ok ?_
        simp only [wL0, wLc, true_and, w7, lg0, lgi, lgr, lgl, ls00, ls0i, ls0r, ls0l, lsi, lsr, lsl, Option.map_some, w71]
        refine PW_blk okC_nth 6 rfl SpX_ok ?_
        simp only [wL0, wLc, true_and, w7, lg0, lgi, lgr, lgl, ls00, ls0i, ls0r, ls0l, lsi, lsr, lsl, Option.map_some, w70]
        rw [m1_add, m1_pos (by omega), show (1 : Int32) = nI 1 from rfl, nI_add, show n - pcU m l - 1 = n - (pcU m l + 1) by omega]
        exact ih (by omega)
    · rw [if_neg hb, Nat.add_zero] at ih
      refine bN1 hb ?_
      refine PW_blk okC_nth 6 rfl SpX_ok ?_
      simp only [wL0, wLc, true_and, w7, lg0, lgi, lgr, lgl, ls00, ls0i, ls0r, ls0l, lsi, lsr, lsl, Option.map_some, w70]
      rw [show (1 : Int32) = nI 1 from rfl, nI_add]
      exact ih hle
theorem XC_9 {z : Int32} (hX : XC σ c S) : XC (sr σ c (upd (σ.1 c) 7 z)) c (upd S 9 z) := by
  refine XC_c hX (fun i h3 h9 => updN h9) ?_ ?_ ?_ ?_ ?_
  · rw [updN (by decide), updN (by decide)]; exact hX.1.1
  · rw [updN (by decide), updN (by decide)]; exact hX.1.2.1
  · rw [updN (by decide), updN (by decide)]; exact hX.1.2.2.1
  · rw [updN (by decide), updN (by decide)]; exact hX.1.2.2.2.1
  · rw [updS, updS]
end CZ
