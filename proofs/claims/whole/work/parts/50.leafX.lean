/-! the class's smallest methods -/
def in0F (v n : Int32) : Int32 := if v < 0 then 0 else if v < n then 1 else 0
def hasF (n m v : Int32) : Int32 := if v < 0 then 0 else if v < n then (if v < m then 1 else 0) else 0
def isNF (a v : Int32) : Int32 := if (a >>> (v &&& 31)) &&& 1 = 0 then 0 else 1
def wiF (v : Int32) : Int32 := if v = 0 then 1 else if v = 8 then 1 else if v = 16 then 1 else if v = 32 then 1 else 0
def hrF (n a c : Int32) : Int32 := if a < 0 then 0 else if c < 0 then 0 else if n < a then 0 else if n - a < c then 0 else 1
def byF (n : Int32) (T : Nat → Int32) (v : Int32) : Int32 := if v < 0 then -1 else if v < n then (if v < 120 then T v.toNatClampNeg else -1) else -1
def noX (σ : St2) (q : Nat) : St2 := sr σ 62 (upd (σ.1 62) q (σ.1 62 q + 1))
def TLv (v : Int32) : Prop := vp_in (-1000001 - v) 7
def tlq (v : Int32) : Nat := (-1000001 - v).toNatClampNeg
theorem tl0 : TLv (-1000001) = True := v7_0
theorem tl1 : TLv (-1000002) = True := v7_1
theorem tl2 : TLv (-1000003) = True := v7_2
theorem tl3 : TLv (-1000004) = True := v7_3
theorem tl4 : TLv (-1000005) = True := v7_4
theorem tl5 : TLv (-1000006) = True := v7_5
theorem tl6 : TLv (-1000007) = True := v7_6
theorem tq0 : tlq (-1000001) = 0 := rfl
theorem tq1 : tlq (-1000002) = 1 := rfl
theorem tq2 : tlq (-1000003) = 2 := rfl
theorem tq3 : tlq (-1000004) = 3 := rfl
theorem tq4 : tlq (-1000005) = 4 := rfl
theorem tq5 : tlq (-1000006) = 5 := rfl
theorem tq6 : tlq (-1000007) = 6 := rfl
theorem CH_e {c : Nat} (h : CH c) : CH c = True := eq_true h
theorem SH_e {c : Nat} (h : SH c) : SH c = True := eq_true h
theorem CH1 : CH 1 := Or.inl rfl
theorem CH15 : CH 15 := Or.inr (Or.inl rfl)
theorem CH29 : CH 29 := Or.inr (Or.inr rfl)
def ush (x y : Int32) : Int32 := (x.toUInt32 >>> (y.toUInt32 &&& Int32.toUInt32 31)).toInt32
def bc1 (x : Int32) : Int32 := x - (ush x 1 &&& 1431655765)
def bc2 (x : Int32) : Int32 := (x &&& 858993459) + (ush x 2 &&& 858993459)
def bc3 (x : Int32) : Int32 := (x + ush x 4) &&& 252645135
def bc4 (x : Int32) : Int32 := x + ush x 8
def bc5 (x : Int32) : Int32 := x + ush x 16
def bcF (x : Int32) : Int32 := bc5 (bc4 (bc3 (bc2 (bc1 x)))) &&& 63
theorem bcF_n : ∀ a, a < 1024 → bcF (nI a) = nI (pcn a) := by decide +kernel
theorem in0F_01 (v n : Int32) : in0F v n = 0 ∨ in0F v n = 1 := by unfold in0F; by_cases h : v < 0 <;> by_cases h2 : v < n <;> simp [h, h2]
theorem ltN {v : Int32} {m : Nat} (hm : m < 2147483648) : (¬ v < 0 ∧ v < nI m) ↔ ∃ n, n < m ∧ v = nI n := by
  constructor
  · intro ⟨h1, h2⟩
    obtain ⟨n, hn, e⟩ := ge0 h1
    subst e
    exact ⟨n, (nI_lt_iff hn hm).mp h2, rfl⟩
  · intro ⟨n, hn, e⟩
    subst e
    exact ⟨lt0 (by omega), nI_lt hn hm⟩
theorem in0Y {v : Int32} {m : Nat} (hm : m < 2147483648) (h : ∃ n, n < m ∧ v = nI n) : in0F v (nI m) = 1 := by
  obtain ⟨h1, h2⟩ := (ltN hm).mpr h
  unfold in0F
  rw [if_neg h1, if_pos h2]
theorem in0N {v : Int32} {m : Nat} (hm : m < 2147483648) (h : ¬ ∃ n, n < m ∧ v = nI n) : in0F v (nI m) = 0 := by
  unfold in0F
  by_cases h1 : v < 0
  · rw [if_pos h1]
  · rw [if_neg h1, if_neg (fun h2 => h ((ltN hm).mp ⟨h1, h2⟩))]
theorem hasY {v : Int32} {n m : Nat} (hn : n ≤ m) (hm : m < 2147483648) (h : ∃ k, k < n ∧ v = nI k) : hasF (nI n) (nI m) v = 1 := by
  obtain ⟨k, hk, e⟩ := h
  subst e
  unfold hasF
  rw [if_neg (lt0 (by omega)), if_pos (nI_lt hk (by omega)), if_pos (nI_lt (by omega) hm)]
theorem hasN {v : Int32} {n m : Nat} (hn : n ≤ m) (hm : m < 2147483648) (h : ¬ ∃ k, k < n ∧ v = nI k) : hasF (nI n) (nI m) v = 0 := by
  unfold hasF
  by_cases h1 : v < 0
  · rw [if_pos h1]
  · rw [if_neg h1, if_neg (fun h2 => h ((ltN (by omega)).mp ⟨h1, h2⟩))]
section LX
variable {ev : EV} {σ : St2} {K : PO}
theorem X_C_isKind {v : Int32} (hk : K (some (.int (in0F v 7))) σ) : Rn 0 ev mC_isKind [.int v] σ K := by
  unfold in0F at hk
  refine Rn_S (by decide) rfl rfl rfl ?_
  refine PW_blk okC_isKind 0 rfl SpR ?_
  simp only [wL0, wLc, true_and, w1, lg0, lgi, lgr, lgl, w74]
  refine ⟨fun h => ?_, fun h => ?_⟩
  · refine PW_blk okC_isKind 3 rfl SpR ?_
    simp only [wL0, wLc, true_and, w0, w71]
    refine PW_blk okC_isKind 4 rfl SpR ?_
    simp only [wL0, w85]
    rw [if_pos h] at hk
    exact ⟨Or.inl trivial, hk⟩
  rw [if_neg h] at hk
  refine PW_blk okC_isKind 1 rfl SpR ?_
  simp only [wL0, wLc, true_and, w1, lg0, lgi, lgr, lgl, w0, w81]
  refine ⟨fun h => ?_, fun h => ?_⟩
  · refine PW_blk okC_isKind 3 rfl SpR ?_
    simp only [wL0, wLc, true_and, w0, w71]
    refine PW_blk okC_isKind 4 rfl SpR ?_
    simp only [wL0, w85]
    rw [if_neg h] at hk
    exact ⟨Or.inl trivial, hk⟩
  rw [if_pos h] at hk
  refine PW_blk okC_isKind 2 rfl SpR ?_
  simp only [wL0, wLc, true_and, w0, w70]
  refine PW_blk okC_isKind 4 rfl SpR ?_
  simp only [wL0, w85]
  exact ⟨Or.inr trivial, hk⟩
theorem X_C_isTrait {v : Int32} (hk : K (some (.int (in0F v 10))) σ) : Rn 0 ev mC_isTrait [.int v] σ K := by
  unfold in0F at hk
  refine Rn_S (by decide) rfl rfl rfl ?_
  refine PW_blk okC_isTrait 0 rfl SpR ?_
  simp only [wL0, wLc, true_and, w1, lg0, lgi, lgr, lgl, w74]
  refine ⟨fun h => ?_, fun h => ?_⟩
  · refine PW_blk okC_isTrait 3 rfl SpR ?_
    simp only [wL0, wLc, true_and, w0, w71]
    refine PW_blk okC_isTrait 4 rfl SpR ?_
    simp only [wL0, w85]
    rw [if_pos h] at hk
    exact ⟨Or.inl trivial, hk⟩
  rw [if_neg h] at hk
  refine PW_blk okC_isTrait 1 rfl SpR ?_
  simp only [wL0, wLc, true_and, w1, lg0, lgi, lgr, lgl, w0, w81]
  refine ⟨fun h => ?_, fun h => ?_⟩
  · refine PW_blk okC_isTrait 3 rfl SpR ?_
    simp only [wL0, wLc, true_and, w0, w71]
    refine PW_blk okC_isTrait 4 rfl SpR ?_
    simp only [wL0, w85]
    rw [if_neg h] at hk
    exact ⟨Or.inl trivial, hk⟩
  rw [if_pos h] at hk
  refine PW_blk okC_isTrait 2 rfl SpR ?_
  simp only [wL0, wLc, true_and, w0, w70]
  refine PW_blk okC_isTrait 4 rfl SpR ?_
  simp only [wL0, w85]
  exact ⟨Or.inr trivial, hk⟩
theorem X_C_isRule {v : Int32} (hk : K (some (.int (in0F v 5))) σ) : Rn 0 ev mC_isRule [.int v] σ K := by
  unfold in0F at hk
  refine Rn_S (by decide) rfl rfl rfl ?_
  refine PW_blk okC_isRule 0 rfl SpR ?_
  simp only [wL0, wLc, true_and, w1, lg0, lgi, lgr, lgl, w74]
  refine ⟨fun h => ?_, fun h => ?_⟩
  · refine PW_blk okC_isRule 3 rfl SpR ?_
    simp only [wL0, wLc, true_and, w0, w71]
    refine PW_blk okC_isRule 4 rfl SpR ?_
    simp only [wL0, w85]
    rw [if_pos h] at hk
    exact ⟨Or.inl trivial, hk⟩
  rw [if_neg h] at hk
  refine PW_blk okC_isRule 1 rfl SpR ?_
  simp only [wL0, wLc, true_and, w1, lg0, lgi, lgr, lgl, w0, w81]
  refine ⟨fun h => ?_, fun h => ?_⟩
  · refine PW_blk okC_isRule 3 rfl SpR ?_
    simp only [wL0, wLc, true_and, w0, w71]
    refine PW_blk okC_isRule 4 rfl SpR ?_
    simp only [wL0, w85]
    rw [if_neg h] at hk
    exact ⟨Or.inl trivial, hk⟩
  rw [if_pos h] at hk
  refine PW_blk okC_isRule 2 rfl SpR ?_
  simp only [wL0, wLc, true_and, w0, w70]
  refine PW_blk okC_isRule 4 rfl SpR ?_
  simp only [wL0, w85]
  exact ⟨Or.inr trivial, hk⟩
theorem X_C_isSpot {v : Int32} (hk : K (some (.int (in0F v 10))) σ) : Rn 0 ev mC_isSpot [.int v] σ K := by
  unfold in0F at hk
  refine Rn_S (by decide) rfl rfl rfl ?_
  refine PW_blk okC_isSpot 0 rfl SpR ?_
  simp only [wL0, wLc, true_and, w1, lg0, lgi, lgr, lgl, w74]
  refine ⟨fun h => ?_, fun h => ?_⟩
  · refine PW_blk okC_isSpot 3 rfl SpR ?_
    simp only [wL0, wLc, true_and, w0, w71]
    refine PW_blk okC_isSpot 4 rfl SpR ?_
    simp only [wL0, w85]
    rw [if_pos h] at hk
    exact ⟨Or.inl trivial, hk⟩
  rw [if_neg h] at hk
  refine PW_blk okC_isSpot 1 rfl SpR ?_
  simp only [wL0, wLc, true_and, w1, lg0, lgi, lgr, lgl, w0, w81]
  refine ⟨fun h => ?_, fun h => ?_⟩
  · refine PW_blk okC_isSpot 3 rfl SpR ?_
    simp only [wL0, wLc, true_and, w0, w71]
    refine PW_blk okC_isSpot 4 rfl SpR ?_
    simp only [wL0, w85]
    rw [if_neg h] at hk
    exact ⟨Or.inl trivial, hk⟩
  rw [if_pos h] at hk
  refine PW_blk okC_isSpot 2 rfl SpR ?_
  simp only [wL0, wLc, true_and, w0, w70]
  refine PW_blk okC_isSpot 4 rfl SpR ?_
  simp only [wL0, w85]
  exact ⟨Or.inr trivial, hk⟩
theorem X_W_isState {v : Int32} (hk : K (some (.int (in0F v 1024))) σ) : Rn 0 ev mW_isState [.int v] σ K := by
  unfold in0F at hk
  refine Rn_S (by decide) rfl rfl rfl ?_
  refine PW_blk okW_isState 0 rfl SpR ?_
  simp only [wL0, wLc, true_and, w1, lg0, lgi, lgr, lgl, w74]
  refine ⟨fun h => ?_, fun h => ?_⟩
  · refine PW_blk okW_isState 3 rfl SpR ?_
    simp only [wL0, wLc, true_and, w0, w71]
    refine PW_blk okW_isState 4 rfl SpR ?_
    simp only [wL0, w85]
    rw [if_pos h] at hk
    exact ⟨Or.inl trivial, hk⟩
  rw [if_neg h] at hk
  refine PW_blk okW_isState 1 rfl SpR ?_
  simp only [wL0, wLc, true_and, w1, lg0, lgi, lgr, lgl, w0, w81]
  refine ⟨fun h => ?_, fun h => ?_⟩
  · refine PW_blk okW_isState 3 rfl SpR ?_
    simp only [wL0, wLc, true_and, w0, w71]
    refine PW_blk okW_isState 4 rfl SpR ?_
    simp only [wL0, w85]
    rw [if_neg h] at hk
    exact ⟨Or.inl trivial, hk⟩
  rw [if_pos h] at hk
  refine PW_blk okW_isState 2 rfl SpR ?_
  simp only [wL0, wLc, true_and, w0, w70]
  refine PW_blk okW_isState 4 rfl SpR ?_
  simp only [wL0, w85]
  exact ⟨Or.inr trivial, hk⟩
theorem X_X_isSheet {v : Int32} (hk : K (some (.int (in0F v 4))) σ) : Rn 0 ev mX_isSheet [.ref 0, .int v] σ K := by
  unfold in0F at hk
  refine Rn_V (by decide) rc5 rfl rfl ?_
  refine PW_blk okX_isSheet 0 rfl SpR ?_
  simp only [wL0, wLc, true_and, w1, lg0, lgi, lgr, lgl, w74]
  refine ⟨fun h => ?_, fun h => ?_⟩
  · refine PW_blk okX_isSheet 3 rfl SpR ?_
    simp only [wL0, wLc, true_and, w0, w71]
    refine PW_blk okX_isSheet 4 rfl SpR ?_
    simp only [wL0, w85]
    rw [if_pos h] at hk
    exact ⟨Or.inl trivial, hk⟩
  rw [if_neg h] at hk
  refine PW_blk okX_isSheet 1 rfl SpR ?_
  simp only [wL0, wLc, true_and, w1, lg0, lgi, lgr, lgl, w0, w81]
  refine ⟨fun h => ?_, fun h => ?_⟩
  · refine PW_blk okX_isSheet 3 rfl SpR ?_
    simp only [wL0, wLc, true_and, w0, w71]
    refine PW_blk okX_isSheet 4 rfl SpR ?_
    simp only [wL0, w85]
    rw [if_neg h] at hk
    exact ⟨Or.inl trivial, hk⟩
  rw [if_pos h] at hk
  refine PW_blk okX_isSheet 2 rfl SpR ?_
  simp only [wL0, wLc, true_and, w0, w70]
  refine PW_blk okX_isSheet 4 rfl SpR ?_
  simp only [wL0, w85]
  exact ⟨Or.inr trivial, hk⟩
theorem X_C_has {c : Nat} {v : Int32} (hc : CH c) (hk : K (some (.int (hasF (σ.1 c 3) 10 v))) σ) : Rn 0 ev mC_has [.ref c, .int v] σ K := by
  unfold hasF at hk
  refine Rn_V (by decide) (rcC hc) rfl rfl ?_
  refine PW_blk okC_has 0 rfl SpR ?_
  simp only [wL0, wLc, true_and, w1, lg0, lgi, lgr, lgl, w74]
  refine ⟨fun h => ?_, fun h => ?_⟩
  · refine PW_blk okC_has 4 rfl SpR ?_
    simp only [wL0, wLc, true_and, w0, w71]
    refine PW_blk okC_has 5 rfl SpR ?_
    simp only [wL0, w85]
    rw [if_pos h] at hk
    exact ⟨Or.inl trivial, hk⟩
  rw [if_neg h] at hk
  refine PW_blk okC_has 1 rfl SpR ?_
  simp only [wL0, wLc, true_and, w1, lg0, lgi, lgr, lgl, w2, w33, CH_k hc, w81]
  refine ⟨fun h => ?_, fun h => ?_⟩
  · refine PW_blk okC_has 4 rfl SpR ?_
    simp only [wL0, wLc, true_and, w0, w71]
    refine PW_blk okC_has 5 rfl SpR ?_
    simp only [wL0, w85]
    rw [if_neg h] at hk
    exact ⟨Or.inl trivial, hk⟩
  rw [if_pos h] at hk
  refine PW_blk okC_has 2 rfl SpR ?_
  simp only [wL0, wLc, true_and, w1, lg0, lgi, lgr, lgl, w0, w81]
  refine ⟨fun h => ?_, fun h => ?_⟩
  · refine PW_blk okC_has 4 rfl SpR ?_
    simp only [wL0, wLc, true_and, w0, w71]
    refine PW_blk okC_has 5 rfl SpR ?_
    simp only [wL0, w85]
    rw [if_neg h] at hk
    exact ⟨Or.inl trivial, hk⟩
  rw [if_pos h] at hk
  refine PW_blk okC_has 3 rfl SpR ?_
  simp only [wL0, wLc, true_and, w0, w70]
  refine PW_blk okC_has 5 rfl SpR ?_
  simp only [wL0, w85]
  exact ⟨Or.inr trivial, hk⟩
theorem X_S_has {c : Nat} {v : Int32} (hs : SH c) (hk : K (some (.int (hasF (σ.1 c 2) 40 v))) σ) : Rn 0 ev mS_has [.ref c, .int v] σ K := by
  unfold hasF at hk
  refine Rn_V (by decide) (rcH hs) rfl rfl ?_
  refine PW_blk okS_has 0 rfl SpR ?_
  simp only [wL0, wLc, true_and, w1, lg0, lgi, lgr, lgl, w74]
  refine ⟨fun h => ?_, fun h => ?_⟩
  · refine PW_blk okS_has 4 rfl SpR ?_
    simp only [wL0, wLc, true_and, w0, w71]
    refine PW_blk okS_has 5 rfl SpR ?_
    simp only [wL0, w85]
    rw [if_pos h] at hk
    exact ⟨Or.inl trivial, hk⟩
  rw [if_neg h] at hk
  refine PW_blk okS_has 1 rfl SpR ?_
  simp only [wL0, wLc, true_and, w1, lg0, lgi, lgr, lgl, w2, w33, SH_k hs, w81]
  refine ⟨fun h => ?_, fun h => ?_⟩
  · refine PW_blk okS_has 4 rfl SpR ?_
    simp only [wL0, wLc, true_and, w0, w71]
    refine PW_blk okS_has 5 rfl SpR ?_
    simp only [wL0, w85]
    rw [if_neg h] at hk
    exact ⟨Or.inl trivial, hk⟩
  rw [if_pos h] at hk
  refine PW_blk okS_has 2 rfl SpR ?_
  simp only [wL0, wLc, true_and, w1, lg0, lgi, lgr, lgl, w0, w81]
  refine ⟨fun h => ?_, fun h => ?_⟩
  · refine PW_blk okS_has 4 rfl SpR ?_
    simp only [wL0, wLc, true_and, w0, w71]
    refine PW_blk okS_has 5 rfl SpR ?_
    simp only [wL0, w85]
    rw [if_neg h] at hk
    exact ⟨Or.inl trivial, hk⟩
  rw [if_pos h] at hk
  refine PW_blk okS_has 3 rfl SpR ?_
  simp only [wL0, wLc, true_and, w0, w70]
  refine PW_blk okS_has 5 rfl SpR ?_
  simp only [wL0, w85]
  exact ⟨Or.inr trivial, hk⟩
theorem X_C_allLocks {c : Nat} (hc : CH c) (hk : K (some (.int (alF (σ.1 c 3)))) σ) : Rn 0 ev mC_allLocks [.ref c] σ K := by
  refine Rn_V (by decide) (rcC hc) rfl rfl ?_
  refine PW_blk okC_allLocks 0 rfl SpR ?_
  simp only [wL0, wLc, true_and, w0, w2, lg0, lgi, lgr, lgl, w33, CH_k hc, w19, w12, w84]
  exact hk
theorem X_C_goal {c : Nat} (hc : CH c) (hk : K (some (.int (σ.1 (c + 12) 2))) σ) : Rn 0 ev mC_goal [.ref c] σ K := by
  refine Rn_V (by decide) (rcC hc) rfl rfl ?_
  refine PW_blk okC_goal 0 rfl SpR ?_
  simp only [wL0, wLc, true_and, w2, lg0, lgi, lgr, lgl, w35, CH_k hc, CH_r1 hc, CH_ru hc, CH_run hc, w0, w39, tn2, vi2_5, w84]
  exact hk
theorem X_C_isOff {c : Nat} {v : Int32} (hc : CH c) (hk : K (some (.int (isNF (σ.1 c 4) v))) σ) : Rn 0 ev mC_isOff [.ref c, .int v] σ K := by
  unfold isNF at hk
  refine Rn_V (by decide) (rcC hc) rfl rfl ?_
  refine PW_blk okC_isOff 0 rfl SpR ?_
  simp only [wL0, wLc, true_and, w2, lg0, lgi, lgr, lgl, w33, CH_k hc, w1, w20, w0, w16, w72]
  refine ⟨fun h => ?_, fun h => ?_⟩
  · rw [if_pos h] at hk
    refine PW_blk okC_isOff 2 rfl SpR ?_
    simp only [wL0, wLc, true_and, w0, w71]
    refine PW_blk okC_isOff 3 rfl SpR ?_
    simp only [wL0, w85]
    exact ⟨Or.inl trivial, hk⟩
  · rw [if_neg h] at hk
    refine PW_blk okC_isOff 1 rfl SpR ?_
    simp only [wL0, wLc, true_and, w0, w70]
    refine PW_blk okC_isOff 3 rfl SpR ?_
    simp only [wL0, w85]
    exact ⟨Or.inr trivial, hk⟩
theorem X_C_isOutAt {c : Nat} {v : Int32} (hc : CH c) (hk : K (some (.int (outF (σ.1 (c + 12) 2) v))) σ) : Rn 0 ev mC_isOutAt [.ref c, .int v] σ K := by
  unfold outF at hk
  refine Rn_V (by decide) (rcC hc) rfl rfl ?_
  refine PW_blk okC_isOutAt 0 rfl SpR ?_
  simp only [wL0, wLc, true_and, w2, lg0, lgi, lgr, lgl, w35, CH_k hc, CH_r1 hc, CH_ru hc, CH_run hc, w0, w39, w1, w18, w16, tn2, vi2_5, w73]
  refine ⟨fun h => ?_, fun h => ?_⟩
  · rw [if_neg h] at hk
    refine PW_blk okC_isOutAt 2 rfl SpR ?_
    simp only [wL0, wLc, true_and, w0, w71]
    refine PW_blk okC_isOutAt 3 rfl SpR ?_
    simp only [wL0, w85]
    exact ⟨Or.inl trivial, hk⟩
  · rw [if_pos h] at hk
    refine PW_blk okC_isOutAt 1 rfl SpR ?_
    simp only [wL0, wLc, true_and, w0, w70]
    refine PW_blk okC_isOutAt 3 rfl SpR ?_
    simp only [wL0, w85]
    exact ⟨Or.inr trivial, hk⟩
theorem X_C_playsAt {c : Nat} {v : Int32} (hc : CH c) (hk : K (some (.int (plF (σ.1 (c + 12) 3) (σ.1 (c + 12) 4) v))) σ) : Rn 0 ev mC_playsAt [.ref c, .int v] σ K := by
  unfold plF at hk
  refine Rn_V (by decide) (rcC hc) rfl rfl ?_
  refine PW_blk okC_playsAt 0 rfl SpR ?_
  simp only [wL0, wLc, true_and, w2, lg0, lgi, lgr, lgl, w35, CH_k hc, CH_r1 hc, CH_ru hc, CH_run hc, w0, w39, w11, w4, ls00, ls0i, ls0r, ls0l, lsi, lsr, lsl, Option.map_some, w1, tn3, vi3_5, tn4, vi4_5, w77]
  refine ⟨fun h => ?_, fun h => ?_⟩
  · rw [if_neg h] at hk
    refine PW_blk okC_playsAt 3 rfl SpR ?_
    simp only [wL0, wLc, true_and, w0, w71]
    refine PW_blk okC_playsAt 4 rfl SpR ?_
    simp only [wL0, w85]
    exact ⟨Or.inl trivial, hk⟩
  rw [if_pos h] at hk
  refine PW_blk okC_playsAt 1 rfl SpR ?_
  simp only [wL0, wLc, true_and, w1, lg0, lgi, lgr, lgl, w15, w2, w35, CH_k hc, CH_r1 hc, CH_ru hc, CH_run hc, w0, w39, tn3, vi3_5, w81]
  refine ⟨fun e => by rw [e] at h; exact absurd h (by decide), fun h2 => ?_, fun h2 => ?_⟩
  · rw [if_neg h2] at hk
    refine PW_blk okC_playsAt 3 rfl SpR ?_
    simp only [wL0, wLc, true_and, w0, w71]
    refine PW_blk okC_playsAt 4 rfl SpR ?_
    simp only [wL0, w85]
    exact ⟨Or.inl trivial, hk⟩
  · rw [if_pos h2] at hk
    refine PW_blk okC_playsAt 2 rfl SpR ?_
    simp only [wL0, wLc, true_and, w0, w70]
    refine PW_blk okC_playsAt 4 rfl SpR ?_
    simp only [wL0, w85]
    exact ⟨Or.inr trivial, hk⟩
theorem X_C_draw {c : Nat} (hc : CH c) (hk : K (some (.int (nI (drN (drZ (σ.1 c 7)))))) (sr σ c (upd (σ.1 c) 7 (drZ (σ.1 c 7))))) : Rn 0 ev mC_draw [.ref c] σ K := by
  refine Rn_V (by decide) (rcC hc) rfl rfl ?_
  refine PW_blk okC_draw 0 rfl SpR ?_
  simp only [wL0, wLc, true_and, w2, lg0, lgi, lgr, lgl, w33, CH_k hc, w0, w13, w11, w36, w21, w84, si_is, sr1, updS, drN_I]
  exact hk
theorem X_S_isWidth {v : Int32} (hk : K (some (.int (wiF v))) σ) : Rn 0 ev mS_isWidth [.int v] σ K := by
  unfold wiF at hk
  refine Rn_S (by decide) rfl rfl rfl ?_
  have yes : K (some (.int 1)) σ → PW 0 ev mS_isWidth 22 [.int v] [] σ K := by
    intro hk
    refine PW_blk okS_isWidth 4 rfl SpR ?_
    simp only [wL0, wLc, true_and, w0, w70]
    refine PW_blk okS_isWidth 6 rfl SpR ?_
    simp only [wL0, w85]
    exact ⟨Or.inr trivial, hk⟩
  refine PW_blk okS_isWidth 0 rfl SpR ?_
  simp only [wL0, wLc, true_and, w1, lg0, lgi, lgr, lgl, w72]
  by_cases h0 : v = 0
  · rw [if_pos h0] at hk
    exact b2Y h0 (yes hk)
  rw [if_neg h0] at hk
  refine b2N h0 ?_
  refine PW_blk okS_isWidth 1 rfl SpR ?_
  simp only [wL0, wLc, true_and, w1, lg0, lgi, lgr, lgl, w0, w78]
  by_cases h1 : v = 8
  · rw [if_pos h1] at hk
    exact b2Y h1 (yes hk)
  rw [if_neg h1] at hk
  refine b2N h1 ?_
  refine PW_blk okS_isWidth 2 rfl SpR ?_
  simp only [wL0, wLc, true_and, w1, lg0, lgi, lgr, lgl, w0, w78]
  by_cases h2 : v = 16
  · rw [if_pos h2] at hk
    exact b2Y h2 (yes hk)
  rw [if_neg h2] at hk
  refine b2N h2 ?_
  refine PW_blk okS_isWidth 3 rfl SpR ?_
  simp only [wL0, wLc, true_and, w1, lg0, lgi, lgr, lgl, w0, w79]
  by_cases h3 : v = 32
  · rw [if_pos h3] at hk
    exact b3Y h3 (yes hk)
  rw [if_neg h3] at hk
  refine b3N h3 ?_
  refine PW_blk okS_isWidth 5 rfl SpR ?_
  simp only [wL0, wLc, true_and, w0, w71]
  refine PW_blk okS_isWidth 6 rfl SpR ?_
  simp only [wL0, w85]
  exact ⟨Or.inl trivial, hk⟩
theorem X_S_isMissing {c : Nat} (hs : SH c) (hk : K (some (.int (if σ.1 c 1 = 0 then 1 else 0))) σ) : Rn 0 ev mS_isMissing [.ref c] σ K := by
  refine Rn_V (by decide) (rcH hs) rfl rfl ?_
  refine PW_blk okS_isMissing 0 rfl SpR ?_
  simp only [wL0, wLc, true_and, w2, lg0, lgi, lgr, lgl, w33, SH_k hs, w73]
  by_cases h : σ.1 c 1 = 0
  · rw [if_pos h] at hk
    refine b3Y h ?_
    refine PW_blk okS_isMissing 1 rfl SpR ?_
    simp only [wL0, wLc, true_and, w0, w70]
    refine PW_blk okS_isMissing 3 rfl SpR ?_
    simp only [wL0, w85]
    exact ⟨Or.inr trivial, hk⟩
  · rw [if_neg h] at hk
    refine b3N h ?_
    refine PW_blk okS_isMissing 2 rfl SpR ?_
    simp only [wL0, wLc, true_and, w0, w71]
    refine PW_blk okS_isMissing 3 rfl SpR ?_
    simp only [wL0, w85]
    exact ⟨Or.inl trivial, hk⟩
theorem X_S_isLike {c d : Nat} (hs : SH c) (hs2 : SH d) (hk : K (some (.int (if σ.1 c 1 = σ.1 d 1 then 1 else 0))) σ) : Rn 0 ev mS_isLike [.ref c, .ref d] σ K := by
  refine Rn_V (by decide) (rcH hs) rfl rfl ?_
  refine PW_blk okS_isLike 0 rfl SpR ?_
  simp only [wL0, wLc, true_and, w2, lg0, lgi, lgr, lgl, w33, SH_k hs, w79, SH_k hs2]
  by_cases h : σ.1 c 1 = σ.1 d 1
  · rw [if_pos h] at hk
    refine b3Y h ?_
    refine PW_blk okS_isLike 1 rfl SpR ?_
    simp only [wL0, wLc, true_and, w0, w70]
    refine PW_blk okS_isLike 3 rfl SpR ?_
    simp only [wL0, w85]
    exact ⟨Or.inr trivial, hk⟩
  · rw [if_neg h] at hk
    refine b3N h ?_
    refine PW_blk okS_isLike 2 rfl SpR ?_
    simp only [wL0, wLc, true_and, w0, w71]
    refine PW_blk okS_isLike 3 rfl SpR ?_
    simp only [wL0, w85]
    exact ⟨Or.inl trivial, hk⟩
theorem X_S_length {c : Nat} (hs : SH c) (hk : K (some (.int (σ.1 c 2))) σ) : Rn 0 ev mS_length [.ref c] σ K := by
  refine Rn_V (by decide) (rcH hs) rfl rfl ?_
  refine PW_blk okS_length 0 rfl SpR ?_
  simp only [wL0, wLc, true_and, w2, lg0, lgi, lgr, lgl, w33, SH_k hs, w84]
  exact hk
theorem X_S_hasRun {c : Nat} {v w : Int32} (hs : SH c) (hk : K (some (.int (hrF (σ.1 c 2) v w))) σ) : Rn 0 ev mS_hasRun [.ref c, .int v, .int w] σ K := by
  unfold hrF at hk
  refine Rn_V (by decide) (rcH hs) rfl rfl ?_
  have no : K (some (.int 0)) σ → PW 0 ev mS_hasRun 30 [.ref c, .int v, .int w] [] σ K := by
    intro hk
    refine PW_blk okS_hasRun 5 rfl SpR ?_
    simp only [wL0, wLc, true_and, w0, w71]
    refine PW_blk okS_hasRun 6 rfl SpR ?_
    simp only [wL0, w85]
    exact ⟨Or.inl trivial, hk⟩
  refine PW_blk okS_hasRun 0 rfl SpR ?_
  simp only [wL0, wLc, true_and, w1, lg0, lgi, lgr, lgl, w74]
  by_cases h0 : v < 0
  · rw [if_pos h0] at hk
    exact b2Y h0 (no hk)
  rw [if_neg h0] at hk
  refine b2N h0 ?_
  refine PW_blk okS_hasRun 1 rfl SpR ?_
  simp only [wL0, wLc, true_and, w1, lg0, lgi, lgr, lgl, w74]
  by_cases h1 : w < 0
  · rw [if_pos h1] at hk
    exact b2Y h1 (no hk)
  rw [if_neg h1] at hk
  refine b2N h1 ?_
  refine PW_blk okS_hasRun 2 rfl SpR ?_
  simp only [wL0, wLc, true_and, w1, lg0, lgi, lgr, lgl, w2, w33, SH_k hs, w82]
  by_cases h2 : σ.1 c 2 < v
  · rw [if_pos h2] at hk
    exact b2Y h2 (no hk)
  rw [if_neg h2] at hk
  refine b2N h2 ?_
  refine PW_blk okS_hasRun 3 rfl SpR ?_
  simp only [wL0, wLc, true_and, w1, lg0, lgi, lgr, lgl, w2, w33, SH_k hs, w12, w82]
  by_cases h3 : σ.1 c 2 - v < w
  · rw [if_pos h3] at hk
    exact b2Y h3 (no hk)
  rw [if_neg h3] at hk
  refine b2N h3 ?_
  refine PW_blk okS_hasRun 4 rfl SpR ?_
  simp only [wL0, wLc, true_and, w0, w70]
  refine PW_blk okS_hasRun 6 rfl SpR ?_
  simp only [wL0, w85]
  exact ⟨Or.inr trivial, hk⟩
theorem X_W_rowLength (hk : K (some (.int (σ.1 43 7))) σ) : Rn 0 ev mW_rowLength [.ref 43] σ K := by
  refine Rn_V (by decide) rc4 rfl rfl ?_
  refine PW_blk okW_rowLength 0 rfl SpR ?_
  simp only [wL0, wLc, true_and, w2, lg0, lgi, lgr, lgl, w33, kX43, w84]
  exact hk
theorem X_W_fittingRows (hk : K (some (.int (σ.1 43 9))) σ) : Rn 0 ev mW_fittingRows [.ref 43] σ K := by
  refine Rn_V (by decide) rc4 rfl rfl ?_
  refine PW_blk okW_fittingRows 0 rfl SpR ?_
  simp only [wL0, wLc, true_and, w2, lg0, lgi, lgr, lgl, w33, kX43, w84]
  exact hk
theorem X_W_fittingAny (hk : K (some (.int (σ.1 43 10))) σ) : Rn 0 ev mW_fittingAny [.ref 43] σ K := by
  refine Rn_V (by decide) rc4 rfl rfl ?_
  refine PW_blk okW_fittingAny 0 rfl SpR ?_
  simp only [wL0, wLc, true_and, w2, lg0, lgi, lgr, lgl, w33, kX43, w84]
  exact hk
theorem X_W_fittingAll (hk : K (some (.int (σ.1 43 11))) σ) : Rn 0 ev mW_fittingAll [.ref 43] σ K := by
  refine Rn_V (by decide) rc4 rfl rfl ?_
  refine PW_blk okW_fittingAll 0 rfl SpR ?_
  simp only [wL0, wLc, true_and, w2, lg0, lgi, lgr, lgl, w33, kX43, w84]
  exact hk
theorem X_K_linkPair (hk : K (some (.int (σ.1 50 2))) σ) : Rn 0 ev mK_linkPair [.ref 50] σ K := by
  refine Rn_V (by decide) rc2 rfl rfl ?_
  refine PW_blk okK_linkPair 0 rfl SpR ?_
  simp only [wL0, wLc, true_and, w2, lg0, lgi, lgr, lgl, w33, kX50, w84]
  exact hk
theorem X_K_linkTime (hk : K (some (.int (σ.1 50 3))) σ) : Rn 0 ev mK_linkTime [.ref 50] σ K := by
  refine Rn_V (by decide) rc2 rfl rfl ?_
  refine PW_blk okK_linkTime 0 rfl SpR ?_
  simp only [wL0, wLc, true_and, w2, lg0, lgi, lgr, lgl, w33, kX50, w84]
  exact hk
theorem X_T_size (hk : K (some (.int (σ.1 51 1))) σ) : Rn 0 ev mT_size [.ref 51] σ K := by
  refine Rn_V (by decide) rc3 rfl rfl ?_
  refine PW_blk okT_size 0 rfl SpR ?_
  simp only [wL0, wLc, true_and, w2, lg0, lgi, lgr, lgl, w33, kX51, w84]
  exact hk
theorem X_T_clear (hk : K (some (.int (σ.1 51 1))) (sr σ 51 (upd (σ.1 51) 1 0))) : Rn 0 ev mT_clear [.ref 51] σ K := by
  refine Rn_V (by decide) rc3 rfl rfl ?_
  refine PW_blk okT_clear 0 rfl SpR ?_
  simp only [wL0, wLc, true_and, w2, lg0, lgi, lgr, lgl, w33, kX51, w4, ls00, ls0i, ls0r, ls0l, lsi, lsr, lsl, Option.map_some, w0, w36, w1, w84, si_is]
  exact hk
theorem X_T_byteAt {v : Int32} (hk : K (some (.int (byF (σ.1 51 1) (σ.1 52) v))) σ) : Rn 0 ev mT_byteAt [.ref 51, .int v] σ K := by
  unfold byF at hk
  refine Rn_V (by decide) rc3 rfl rfl ?_
  have no : K (some (.int (-1))) σ → PW 0 ev mT_byteAt 27 [.ref 51, .int v] [] σ K := by
    intro hk
    refine PW_blk okT_byteAt 4 rfl SpR ?_
    simp only [wL0, wLc, true_and, w0, w71]
    refine PW_blk okT_byteAt 5 rfl SpR ?_
    simp only [wL0, w84]
    exact hk
  refine PW_blk okT_byteAt 0 rfl SpR ?_
  simp only [wL0, wLc, true_and, w1, lg0, lgi, lgr, lgl, w74]
  by_cases h0 : v < 0
  · rw [if_pos h0] at hk
    exact b2Y h0 (no hk)
  rw [if_neg h0] at hk
  refine b2N h0 ?_
  refine PW_blk okT_byteAt 1 rfl SpR ?_
  simp only [wL0, wLc, true_and, w1, lg0, lgi, lgr, lgl, w2, w33, kX51, w81]
  by_cases h1 : v < σ.1 51 1
  rotate_left
  · rw [if_neg h1] at hk
    exact b3N h1 (no hk)
  rw [if_pos h1] at hk
  refine b3Y h1 ?_
  refine PW_blk okT_byteAt 2 rfl SpR ?_
  simp only [wL0, wLc, true_and, w1, lg0, lgi, lgr, lgl, w0, w81]
  by_cases h2 : v < 120
  rotate_left
  · rw [if_neg h2] at hk
    exact b3N h2 (no hk)
  rw [if_pos h2] at hk
  refine b3Y h2 ?_
  obtain ⟨n, hn, e⟩ := ge0 h0
  subst e
  rw [show (120 : Int32) = nI 120 from rfl, nI_lt_iff hn (by decide)] at h2
  refine PW_blk okT_byteAt 3 rfl SpR ?_
  simp only [wL0, wLc, true_and, w2, lg0, lgi, lgr, lgl, w35, kX51, rX51_0, kX52, nX52, w1, w39, w70, eq_true (vp_in_nI h2 (by decide))]
  refine PW_blk okT_byteAt 5 rfl SpR ?_
  simp only [wL0, w84]
  exact hk
theorem X_T_isLetter {v : Int32} (hk : K (some (.int (in1F v 97 122))) σ) : Rn 0 ev mT_isLetter [.int v] σ K := by
  unfold in1F at hk
  refine Rn_S (by decide) rfl rfl rfl ?_
  have no : K (some (.int 0)) σ → PW 0 ev mT_isLetter 16 [.int v] [] σ K := by
    intro hk
    refine PW_blk okT_isLetter 3 rfl SpR ?_
    simp only [wL0, wLc, true_and, w0, w71]
    refine PW_blk okT_isLetter 4 rfl SpR ?_
    simp only [wL0, w85]
    exact ⟨Or.inl trivial, hk⟩
  refine PW_blk okT_isLetter 0 rfl SpR ?_
  simp only [wL0, wLc, true_and, w1, lg0, lgi, lgr, lgl, w0, w80]
  by_cases h0 : v < 97
  · rw [if_pos h0] at hk
    exact b2Y h0 (no hk)
  rw [if_neg h0] at hk
  refine b2N h0 ?_
  refine PW_blk okT_isLetter 1 rfl SpR ?_
  simp only [wL0, wLc, true_and, w1, lg0, lgi, lgr, lgl, w0, w82]
  by_cases h1 : 122 < v
  · rw [if_pos h1] at hk
    exact b2Y h1 (no hk)
  rw [if_neg h1] at hk
  refine b2N h1 ?_
  refine PW_blk okT_isLetter 2 rfl SpR ?_
  simp only [wL0, wLc, true_and, w0, w70]
  refine PW_blk okT_isLetter 4 rfl SpR ?_
  simp only [wL0, w85]
  exact ⟨Or.inr trivial, hk⟩
theorem X_T_isDigit {v : Int32} (hk : K (some (.int (in1F v 48 57))) σ) : Rn 0 ev mT_isDigit [.int v] σ K := by
  unfold in1F at hk
  refine Rn_S (by decide) rfl rfl rfl ?_
  have no : K (some (.int 0)) σ → PW 0 ev mT_isDigit 16 [.int v] [] σ K := by
    intro hk
    refine PW_blk okT_isDigit 3 rfl SpR ?_
    simp only [wL0, wLc, true_and, w0, w71]
    refine PW_blk okT_isDigit 4 rfl SpR ?_
    simp only [wL0, w85]
    exact ⟨Or.inl trivial, hk⟩
  refine PW_blk okT_isDigit 0 rfl SpR ?_
  simp only [wL0, wLc, true_and, w1, lg0, lgi, lgr, lgl, w0, w80]
  by_cases h0 : v < 48
  · rw [if_pos h0] at hk
    exact b2Y h0 (no hk)
  rw [if_neg h0] at hk
  refine b2N h0 ?_
  refine PW_blk okT_isDigit 1 rfl SpR ?_
  simp only [wL0, wLc, true_and, w1, lg0, lgi, lgr, lgl, w0, w82]
  by_cases h1 : 57 < v
  · rw [if_pos h1] at hk
    exact b2Y h1 (no hk)
  rw [if_neg h1] at hk
  refine b2N h1 ?_
  refine PW_blk okT_isDigit 2 rfl SpR ?_
  simp only [wL0, wLc, true_and, w0, w70]
  refine PW_blk okT_isDigit 4 rfl SpR ?_
  simp only [wL0, w85]
  exact ⟨Or.inr trivial, hk⟩
theorem X_X_tell {v : Int32} (hv : TLv v) (hk : K (some (.int v)) (noX σ (tlq v))) : Rn 0 ev mX_tell [.ref 0, .int v] σ K := by
  unfold TLv at hv
  unfold noX tlq at hk
  refine Rn_V (by decide) rc5 rfl rfl ?_
  have h0 : ¬ (-1000001 - v) < 0 := fun z => hv (Or.inl z)
  obtain ⟨n, hn, e⟩ := ge0 h0
  rw [e] at hv hk h0
  rw [nI_clamp hn] at hk
  have h7 : n < 7 := by
    rcases Nat.lt_or_ge n 7 with z | z
    · exact z
    · exact absurd (Or.inr (by rw [nI_clamp hn]; exact z)) hv
  refine PW_blk okX_tell 0 rfl SpR ?_
  simp only [wL0, wLc, true_and, w0, w1, lg0, lgi, lgr, lgl, w12, w4, ls00, ls0i, ls0r, ls0l, lsi, lsr, lsl, Option.map_some, w74, e]
  refine b2N h0 ?_
  refine PW_blk okX_tell 1 rfl SpR ?_
  simp only [wL0, wLc, true_and, w1, lg0, lgi, lgr, lgl, w0, w81]
  refine b3Y (nI_lt h7 (by decide)) ?_
  refine PW_blk okX_tell 2 rfl SpR ?_
  simp only [wL0, wLc, true_and, w2, lg0, lgi, lgr, lgl, w35, kX0, rX0_7, kX62, nX62, w1, w10i, w10r, w39, w0, w11, w40, tn1, w71, eq_true (vp_in_nI h7 (by decide)), nI_clamp hn, si_is]
  refine PW_blk okX_tell 3 rfl SpR ?_
  simp only [wL0, wLc, true_and, w1, lg0, lgi, lgr, lgl, w84]
  exact hk
theorem X_JI_bitCount {v : Int32} (hk : K (some (.int (bcF v))) σ) : Rn 0 ev mJI_bitCount [.int v] σ K := by
  refine Rn_S (by decide) rfl rfl rfl ?_
  refine PW_blk okJI_bitCount 0 rfl SpR ?_
  simp only [wL0, wLc, true_and, w1, lg0, lgi, lgr, lgl, w0, w21, w16, w12, w4, ls00, ls0i, ls0r, ls0l, lsi, lsr, lsl, Option.map_some, w11, w84]
  exact hk
end LX
/-- the class's leaves by rule -/
def SpX (ev : EV) : SPT := fun y as σ K =>
  if y = mC_isKind then (match as with | [.int v] => K (some (.int (in0F v 7))) σ | _ => False) else
  if y = mC_isTrait then (match as with | [.int v] => K (some (.int (in0F v 10))) σ | _ => False) else
  if y = mC_isRule then (match as with | [.int v] => K (some (.int (in0F v 5))) σ | _ => False) else
  if y = mC_isSpot then (match as with | [.int v] => K (some (.int (in0F v 10))) σ | _ => False) else
  if y = mC_has then (match as with | [.ref c, .int v] => CH c ∧ K (some (.int (hasF (σ.1 c 3) 10 v))) σ | _ => False) else
  if y = mC_allLocks then (match as with | [.ref c] => CH c ∧ K (some (.int (alF (σ.1 c 3)))) σ | _ => False) else
  if y = mC_goal then (match as with | [.ref c] => CH c ∧ K (some (.int (σ.1 (c + 12) 2))) σ | _ => False) else
  if y = mC_isOff then (match as with | [.ref c, .int v] => CH c ∧ K (some (.int (isNF (σ.1 c 4) v))) σ | _ => False) else
  if y = mC_isOutAt then (match as with | [.ref c, .int v] => CH c ∧ K (some (.int (outF (σ.1 (c + 12) 2) v))) σ | _ => False) else
  if y = mC_playsAt then (match as with | [.ref c, .int v] => CH c ∧ K (some (.int (plF (σ.1 (c + 12) 3) (σ.1 (c + 12) 4) v))) σ | _ => False) else
  if y = mC_draw then (match as with | [.ref c] => CH c ∧ K (some (.int (nI (drN (drZ (σ.1 c 7)))))) (sr σ c (upd (σ.1 c) 7 (drZ (σ.1 c 7)))) | _ => False) else
  if y = mS_isWidth then (match as with | [.int v] => K (some (.int (wiF v))) σ | _ => False) else
  if y = mS_isMissing then (match as with | [.ref c] => SH c ∧ K (some (.int (if σ.1 c 1 = 0 then 1 else 0))) σ | _ => False) else
  if y = mS_isLike then (match as with | [.ref c, .ref d] => SH c ∧ SH d ∧ K (some (.int (if σ.1 c 1 = σ.1 d 1 then 1 else 0))) σ | _ => False) else
  if y = mS_length then (match as with | [.ref c] => SH c ∧ K (some (.int (σ.1 c 2))) σ | _ => False) else
  if y = mS_has then (match as with | [.ref c, .int v] => SH c ∧ K (some (.int (hasF (σ.1 c 2) 40 v))) σ | _ => False) else
  if y = mS_hasRun then (match as with | [.ref c, .int v, .int w] => SH c ∧ K (some (.int (hrF (σ.1 c 2) v w))) σ | _ => False) else
  if y = mW_isState then (match as with | [.int v] => K (some (.int (in0F v 1024))) σ | _ => False) else
  if y = mW_rowLength then (match as with | [.ref 43] => K (some (.int (σ.1 43 7))) σ | _ => False) else
  if y = mW_fittingRows then (match as with | [.ref 43] => K (some (.int (σ.1 43 9))) σ | _ => False) else
  if y = mW_fittingAny then (match as with | [.ref 43] => K (some (.int (σ.1 43 10))) σ | _ => False) else
  if y = mW_fittingAll then (match as with | [.ref 43] => K (some (.int (σ.1 43 11))) σ | _ => False) else
  if y = mK_linkPair then (match as with | [.ref 50] => K (some (.int (σ.1 50 2))) σ | _ => False) else
  if y = mK_linkTime then (match as with | [.ref 50] => K (some (.int (σ.1 50 3))) σ | _ => False) else
  if y = mT_size then (match as with | [.ref 51] => K (some (.int (σ.1 51 1))) σ | _ => False) else
  if y = mT_clear then (match as with | [.ref 51] => K (some (.int (σ.1 51 1))) (sr σ 51 (upd (σ.1 51) 1 0)) | _ => False) else
  if y = mT_byteAt then (match as with | [.ref 51, .int v] => K (some (.int (byF (σ.1 51 1) (σ.1 52) v))) σ | _ => False) else
  if y = mT_isLetter then (match as with | [.int v] => K (some (.int (in1F v 97 122))) σ | _ => False) else
  if y = mT_isDigit then (match as with | [.int v] => K (some (.int (in1F v 48 57))) σ | _ => False) else
  if y = mX_isSheet then (match as with | [.ref 0, .int v] => K (some (.int (in0F v 4))) σ | _ => False) else
  if y = mX_tell then (match as with | [.ref 0, .int v] => TLv v ∧ K (some (.int v)) (noX σ (tlq v)) | _ => False) else
  if y = mJI_bitCount then (match as with | [.int v] => K (some (.int (bcF v))) σ | _ => False) else
  Rn 0 ev y as σ K
theorem xp_C_isKind {ev : EV} {σ : St2} {K : PO} {v : Int32} : SpX ev mC_isKind [.int v] σ K = (K (some (.int (in0F v 7))) σ) := rfl
theorem xp_C_isTrait {ev : EV} {σ : St2} {K : PO} {v : Int32} : SpX ev mC_isTrait [.int v] σ K = (K (some (.int (in0F v 10))) σ) := rfl
theorem xp_C_isRule {ev : EV} {σ : St2} {K : PO} {v : Int32} : SpX ev mC_isRule [.int v] σ K = (K (some (.int (in0F v 5))) σ) := rfl
theorem xp_C_isSpot {ev : EV} {σ : St2} {K : PO} {v : Int32} : SpX ev mC_isSpot [.int v] σ K = (K (some (.int (in0F v 10))) σ) := rfl
theorem xp_C_has {ev : EV} {σ : St2} {K : PO} {c : Nat} {v : Int32} : SpX ev mC_has [.ref c, .int v] σ K = (CH c ∧ K (some (.int (hasF (σ.1 c 3) 10 v))) σ) := rfl
theorem xp_C_allLocks {ev : EV} {σ : St2} {K : PO} {c : Nat} : SpX ev mC_allLocks [.ref c] σ K = (CH c ∧ K (some (.int (alF (σ.1 c 3)))) σ) := rfl
theorem xp_C_goal {ev : EV} {σ : St2} {K : PO} {c : Nat} : SpX ev mC_goal [.ref c] σ K = (CH c ∧ K (some (.int (σ.1 (c + 12) 2))) σ) := rfl
theorem xp_C_isOff {ev : EV} {σ : St2} {K : PO} {c : Nat} {v : Int32} : SpX ev mC_isOff [.ref c, .int v] σ K = (CH c ∧ K (some (.int (isNF (σ.1 c 4) v))) σ) := rfl
theorem xp_C_isOutAt {ev : EV} {σ : St2} {K : PO} {c : Nat} {v : Int32} : SpX ev mC_isOutAt [.ref c, .int v] σ K = (CH c ∧ K (some (.int (outF (σ.1 (c + 12) 2) v))) σ) := rfl
theorem xp_C_playsAt {ev : EV} {σ : St2} {K : PO} {c : Nat} {v : Int32} : SpX ev mC_playsAt [.ref c, .int v] σ K = (CH c ∧ K (some (.int (plF (σ.1 (c + 12) 3) (σ.1 (c + 12) 4) v))) σ) := rfl
theorem xp_C_draw {ev : EV} {σ : St2} {K : PO} {c : Nat} : SpX ev mC_draw [.ref c] σ K = (CH c ∧ K (some (.int (nI (drN (drZ (σ.1 c 7)))))) (sr σ c (upd (σ.1 c) 7 (drZ (σ.1 c 7))))) := rfl
theorem xp_S_isWidth {ev : EV} {σ : St2} {K : PO} {v : Int32} : SpX ev mS_isWidth [.int v] σ K = (K (some (.int (wiF v))) σ) := rfl
theorem xp_S_isMissing {ev : EV} {σ : St2} {K : PO} {c : Nat} : SpX ev mS_isMissing [.ref c] σ K = (SH c ∧ K (some (.int (if σ.1 c 1 = 0 then 1 else 0))) σ) := rfl
theorem xp_S_isLike {ev : EV} {σ : St2} {K : PO} {c d : Nat} : SpX ev mS_isLike [.ref c, .ref d] σ K = (SH c ∧ SH d ∧ K (some (.int (if σ.1 c 1 = σ.1 d 1 then 1 else 0))) σ) := rfl
theorem xp_S_length {ev : EV} {σ : St2} {K : PO} {c : Nat} : SpX ev mS_length [.ref c] σ K = (SH c ∧ K (some (.int (σ.1 c 2))) σ) := rfl
theorem xp_S_has {ev : EV} {σ : St2} {K : PO} {c : Nat} {v : Int32} : SpX ev mS_has [.ref c, .int v] σ K = (SH c ∧ K (some (.int (hasF (σ.1 c 2) 40 v))) σ) := rfl
theorem xp_S_hasRun {ev : EV} {σ : St2} {K : PO} {c : Nat} {v w : Int32} : SpX ev mS_hasRun [.ref c, .int v, .int w] σ K = (SH c ∧ K (some (.int (hrF (σ.1 c 2) v w))) σ) := rfl
theorem xp_W_isState {ev : EV} {σ : St2} {K : PO} {v : Int32} : SpX ev mW_isState [.int v] σ K = (K (some (.int (in0F v 1024))) σ) := rfl
theorem xp_W_rowLength {ev : EV} {σ : St2} {K : PO}  : SpX ev mW_rowLength [.ref 43] σ K = (K (some (.int (σ.1 43 7))) σ) := rfl
theorem xp_W_fittingRows {ev : EV} {σ : St2} {K : PO}  : SpX ev mW_fittingRows [.ref 43] σ K = (K (some (.int (σ.1 43 9))) σ) := rfl
theorem xp_W_fittingAny {ev : EV} {σ : St2} {K : PO}  : SpX ev mW_fittingAny [.ref 43] σ K = (K (some (.int (σ.1 43 10))) σ) := rfl
theorem xp_W_fittingAll {ev : EV} {σ : St2} {K : PO}  : SpX ev mW_fittingAll [.ref 43] σ K = (K (some (.int (σ.1 43 11))) σ) := rfl
theorem xp_K_linkPair {ev : EV} {σ : St2} {K : PO}  : SpX ev mK_linkPair [.ref 50] σ K = (K (some (.int (σ.1 50 2))) σ) := rfl
theorem xp_K_linkTime {ev : EV} {σ : St2} {K : PO}  : SpX ev mK_linkTime [.ref 50] σ K = (K (some (.int (σ.1 50 3))) σ) := rfl
theorem xp_T_size {ev : EV} {σ : St2} {K : PO}  : SpX ev mT_size [.ref 51] σ K = (K (some (.int (σ.1 51 1))) σ) := rfl
theorem xp_T_clear {ev : EV} {σ : St2} {K : PO}  : SpX ev mT_clear [.ref 51] σ K = (K (some (.int (σ.1 51 1))) (sr σ 51 (upd (σ.1 51) 1 0))) := rfl
theorem xp_T_byteAt {ev : EV} {σ : St2} {K : PO} {v : Int32} : SpX ev mT_byteAt [.ref 51, .int v] σ K = (K (some (.int (byF (σ.1 51 1) (σ.1 52) v))) σ) := rfl
theorem xp_T_isLetter {ev : EV} {σ : St2} {K : PO} {v : Int32} : SpX ev mT_isLetter [.int v] σ K = (K (some (.int (in1F v 97 122))) σ) := rfl
theorem xp_T_isDigit {ev : EV} {σ : St2} {K : PO} {v : Int32} : SpX ev mT_isDigit [.int v] σ K = (K (some (.int (in1F v 48 57))) σ) := rfl
theorem xp_X_isSheet {ev : EV} {σ : St2} {K : PO} {v : Int32} : SpX ev mX_isSheet [.ref 0, .int v] σ K = (K (some (.int (in0F v 4))) σ) := rfl
theorem xp_X_tell {ev : EV} {σ : St2} {K : PO} {v : Int32} : SpX ev mX_tell [.ref 0, .int v] σ K = (TLv v ∧ K (some (.int v)) (noX σ (tlq v))) := rfl
theorem xp_JI_bitCount {ev : EV} {σ : St2} {K : PO} {v : Int32} : SpX ev mJI_bitCount [.int v] σ K = (K (some (.int (bcF v))) σ) := rfl
theorem SpX_ok {ev : EV} : ∀ y as σ K, SpX ev y as σ K → Rn 0 ev y as σ K := by
  intro y as σ K h
  unfold SpX at h
  by_cases e : y = mC_isKind
  · rw [if_pos e] at h
    subst e
    split at h
    next => exact X_C_isKind h
    next => exact h.elim
  rw [if_neg e] at h
  clear e
  by_cases e : y = mC_isTrait
  · rw [if_pos e] at h
    subst e
    split at h
    next => exact X_C_isTrait h
    next => exact h.elim
  rw [if_neg e] at h
  clear e
  by_cases e : y = mC_isRule
  · rw [if_pos e] at h
    subst e
    split at h
    next => exact X_C_isRule h
    next => exact h.elim
  rw [if_neg e] at h
  clear e
  by_cases e : y = mC_isSpot
  · rw [if_pos e] at h
    subst e
    split at h
    next => exact X_C_isSpot h
    next => exact h.elim
  rw [if_neg e] at h
  clear e
  by_cases e : y = mC_has
  · rw [if_pos e] at h
    subst e
    split at h
    next => exact X_C_has h.1 h.2
    next => exact h.elim
  rw [if_neg e] at h
  clear e
  by_cases e : y = mC_allLocks
  · rw [if_pos e] at h
    subst e
    split at h
    next => exact X_C_allLocks h.1 h.2
    next => exact h.elim
  rw [if_neg e] at h
  clear e
  by_cases e : y = mC_goal
  · rw [if_pos e] at h
    subst e
    split at h
    next => exact X_C_goal h.1 h.2
    next => exact h.elim
  rw [if_neg e] at h
  clear e
  by_cases e : y = mC_isOff
  · rw [if_pos e] at h
    subst e
    split at h
    next => exact X_C_isOff h.1 h.2
    next => exact h.elim
  rw [if_neg e] at h
  clear e
  by_cases e : y = mC_isOutAt
  · rw [if_pos e] at h
    subst e
    split at h
    next => exact X_C_isOutAt h.1 h.2
    next => exact h.elim
  rw [if_neg e] at h
  clear e
  by_cases e : y = mC_playsAt
  · rw [if_pos e] at h
    subst e
    split at h
    next => exact X_C_playsAt h.1 h.2
    next => exact h.elim
  rw [if_neg e] at h
  clear e
  by_cases e : y = mC_draw
  · rw [if_pos e] at h
    subst e
    split at h
    next => exact X_C_draw h.1 h.2
    next => exact h.elim
  rw [if_neg e] at h
  clear e
  by_cases e : y = mS_isWidth
  · rw [if_pos e] at h
    subst e
    split at h
    next => exact X_S_isWidth h
    next => exact h.elim
  rw [if_neg e] at h
  clear e
  by_cases e : y = mS_isMissing
  · rw [if_pos e] at h
    subst e
    split at h
    next => exact X_S_isMissing h.1 h.2
    next => exact h.elim
  rw [if_neg e] at h
  clear e
  by_cases e : y = mS_isLike
  · rw [if_pos e] at h
    subst e
    split at h
    next => exact X_S_isLike h.1 h.2.1 h.2.2
    next => exact h.elim
  rw [if_neg e] at h
  clear e
  by_cases e : y = mS_length
  · rw [if_pos e] at h
    subst e
    split at h
    next => exact X_S_length h.1 h.2
    next => exact h.elim
  rw [if_neg e] at h
  clear e
  by_cases e : y = mS_has
  · rw [if_pos e] at h
    subst e
    split at h
    next => exact X_S_has h.1 h.2
    next => exact h.elim
  rw [if_neg e] at h
  clear e
  by_cases e : y = mS_hasRun
  · rw [if_pos e] at h
    subst e
    split at h
    next => exact X_S_hasRun h.1 h.2
    next => exact h.elim
  rw [if_neg e] at h
  clear e
  by_cases e : y = mW_isState
  · rw [if_pos e] at h
    subst e
    split at h
    next => exact X_W_isState h
    next => exact h.elim
  rw [if_neg e] at h
  clear e
  by_cases e : y = mW_rowLength
  · rw [if_pos e] at h
    subst e
    split at h
    next => exact X_W_rowLength h
    next => exact h.elim
  rw [if_neg e] at h
  clear e
  by_cases e : y = mW_fittingRows
  · rw [if_pos e] at h
    subst e
    split at h
    next => exact X_W_fittingRows h
    next => exact h.elim
  rw [if_neg e] at h
  clear e
  by_cases e : y = mW_fittingAny
  · rw [if_pos e] at h
    subst e
    split at h
    next => exact X_W_fittingAny h
    next => exact h.elim
  rw [if_neg e] at h
  clear e
  by_cases e : y = mW_fittingAll
  · rw [if_pos e] at h
    subst e
    split at h
    next => exact X_W_fittingAll h
    next => exact h.elim
  rw [if_neg e] at h
  clear e
  by_cases e : y = mK_linkPair
  · rw [if_pos e] at h
    subst e
    split at h
    next => exact X_K_linkPair h
    next => exact h.elim
  rw [if_neg e] at h
  clear e
  by_cases e : y = mK_linkTime
  · rw [if_pos e] at h
    subst e
    split at h
    next => exact X_K_linkTime h
    next => exact h.elim
  rw [if_neg e] at h
  clear e
  by_cases e : y = mT_size
  · rw [if_pos e] at h
    subst e
    split at h
    next => exact X_T_size h
    next => exact h.elim
  rw [if_neg e] at h
  clear e
  by_cases e : y = mT_clear
  · rw [if_pos e] at h
    subst e
    split at h
    next => exact X_T_clear h
    next => exact h.elim
  rw [if_neg e] at h
  clear e
  by_cases e : y = mT_byteAt
  · rw [if_pos e] at h
    subst e
    split at h
    next => exact X_T_byteAt h
    next => exact h.elim
  rw [if_neg e] at h
  clear e
  by_cases e : y = mT_isLetter
  · rw [if_pos e] at h
    subst e
    split at h
    next => exact X_T_isLetter h
    next => exact h.elim
  rw [if_neg e] at h
  clear e
  by_cases e : y = mT_isDigit
  · rw [if_pos e] at h
    subst e
    split at h
    next => exact X_T_isDigit h
    next => exact h.elim
  rw [if_neg e] at h
  clear e
  by_cases e : y = mX_isSheet
  · rw [if_pos e] at h
    subst e
    split at h
    next => exact X_X_isSheet h
    next => exact h.elim
  rw [if_neg e] at h
  clear e
  by_cases e : y = mX_tell
  · rw [if_pos e] at h
    subst e
    split at h
    next => exact X_X_tell h.1 h.2
    next => exact h.elim
  rw [if_neg e] at h
  clear e
  by_cases e : y = mJI_bitCount
  · rw [if_pos e] at h
    subst e
    split at h
    next => exact X_JI_bitCount h
    next => exact h.elim
  rw [if_neg e] at h
  clear e
  exact h
