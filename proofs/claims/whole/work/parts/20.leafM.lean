/-! the reference's smallest methods -/
def in1F (v a b : Int32) : Int32 := if v < a then 0 else if b < v then 0 else 1
def isInF (a b : Int32) : Int32 := if (a >>> (b &&& 31)) &&& 1 = 1 then 1 else 0
def mostF (a b : Int32) : Int32 := if b < a then a else b
def ixF (k f : Int32) : Int32 := 10 + 10 * k + f
def alF (n : Int32) : Int32 := (1 : Int32) <<< (n &&& 31) - 1
def outF (a o : Int32) : Int32 := if a &&& (o ^^^ -1) = 0 then 1 else 0
def plF (m s c : Int32) : Int32 := if 0 < m + s then (if c - c / (m + s) * (m + s) < m then 1 else 0) else 0
def abF (k : Int32) : Int32 := if k = 5 then 1 else if k = 4 then 3 else if k = 3 then 2 else 0
def noF (w : Int32) : Int32 := -1000001 - w
def noS (σ : St2) (w : Int32) : St2 := si σ 4 w.toNatClampNeg (σ.1 4 w.toNatClampNeg + 1)
theorem b01 {c : Prop} [Decidable c] : (if c then (1 : Int32) else 0) = 0 ∨ (if c then (1 : Int32) else 0) = 1 := by by_cases h : c <;> simp [h]
theorem in1F_01 (v a b : Int32) : in1F v a b = 0 ∨ in1F v a b = 1 := by unfold in1F; by_cases h : v < a <;> by_cases h2 : b < v <;> simp [h, h2]
theorem isInF_01 (a b : Int32) : isInF a b = 0 ∨ isInF a b = 1 := by unfold isInF; exact b01
section LM
variable {ev : EV} {σ : St2} {K : PO}
theorem R_in1 {v a b : Int32} (hk : K (some (.int (in1F v a b))) σ) : Rn 1 ev mM_in1 [.int v, .int a, .int b] σ K := by
  unfold in1F at hk
  refine Rn_S (by decide) rfl rfl rfl ?_
  refine PW_blk okM_in1 0 rfl SpR ?_
  simp only [wL0, wLc, true_and, w1, lg0, lgi, lgr, lgl, w80]
  refine ⟨fun h => ?_, fun h => ?_⟩
  · refine PW_blk okM_in1 3 rfl SpR ?_
    simp only [wL0, wLc, true_and, w0, w71]
    refine PW_blk okM_in1 4 rfl SpR ?_
    simp only [wL0, w85]
    rw [if_pos h] at hk
    exact ⟨Or.inl trivial, hk⟩
  rw [if_neg h] at hk
  refine PW_blk okM_in1 1 rfl SpR ?_
  simp only [wL0, wLc, true_and, w1, lg0, lgi, lgr, lgl, w82]
  refine ⟨fun h => ?_, fun h => ?_⟩
  · refine PW_blk okM_in1 3 rfl SpR ?_
    simp only [wL0, wLc, true_and, w0, w71]
    refine PW_blk okM_in1 4 rfl SpR ?_
    simp only [wL0, w85]
    rw [if_pos h] at hk
    exact ⟨Or.inl trivial, hk⟩
  rw [if_neg h] at hk
  refine PW_blk okM_in1 2 rfl SpR ?_
  simp only [wL0, wLc, true_and, w0, w70]
  refine PW_blk okM_in1 4 rfl SpR ?_
  simp only [wL0, w85]
  exact ⟨Or.inr trivial, hk⟩
theorem R_most {a b : Int32} (hk : K (some (.int (mostF a b))) σ) : Rn 1 ev mM_most [.int a, .int b] σ K := by
  unfold mostF at hk
  refine Rn_S (by decide) rfl rfl rfl ?_
  refine PW_blk okM_most 0 rfl SpR ?_
  simp only [wL0, wLc, true_and, w1, lg0, lgi, lgr, lgl, w83]
  refine ⟨fun h => ?_, fun h => ?_⟩
  · rw [if_neg h] at hk
    refine PW_blk okM_most 2 rfl SpR ?_
    simp only [wL0, wLc, true_and, w1, lg0, lgi, lgr, lgl, w71]
    refine PW_blk okM_most 3 rfl SpR ?_
    simp only [wL0, w84]
    exact hk
  · rw [if_pos h] at hk
    refine PW_blk okM_most 1 rfl SpR ?_
    simp only [wL0, wLc, true_and, w1, lg0, lgi, lgr, lgl, w70]
    refine PW_blk okM_most 3 rfl SpR ?_
    simp only [wL0, w84]
    exact hk
theorem R_isIn {a b : Int32} (hk : K (some (.int (isInF a b))) σ) : Rn 1 ev mM_isIn [.int a, .int b] σ K := by
  unfold isInF at hk
  refine Rn_S (by decide) rfl rfl rfl ?_
  refine PW_blk okM_isIn 0 rfl SpR ?_
  simp only [wL0, wLc, true_and, w1, lg0, lgi, lgr, lgl, w20, w0, w16, w79]
  refine ⟨fun h => ?_, fun h => ?_⟩
  · rw [if_neg h] at hk
    refine PW_blk okM_isIn 2 rfl SpR ?_
    simp only [wL0, wLc, true_and, w0, w71]
    refine PW_blk okM_isIn 3 rfl SpR ?_
    simp only [wL0, w85]
    exact ⟨Or.inl trivial, hk⟩
  · rw [if_pos h] at hk
    refine PW_blk okM_isIn 1 rfl SpR ?_
    simp only [wL0, wLc, true_and, w0, w70]
    refine PW_blk okM_isIn 3 rfl SpR ?_
    simp only [wL0, w85]
    exact ⟨Or.inr trivial, hk⟩
theorem R_get {k f : Int32} (hi : vp_in (ixF k f) 120) (hk : K (some (.int (σ.1 1 (ixF k f).toNatClampNeg))) σ) : Rn 1 ev mM_get [.ref 0, .int k, .int f] σ K := by
  refine Rn_V (by decide) rc6 rfl rfl ?_
  refine PW_blk okM_get 0 rfl SpR ?_
  simp only [wL0, wLc, true_and, w2, lg0, lgi, lgr, lgl, w35, kM0, rM0, kM1, nM1, w0, w1, w13, w11, w39, tn10, vi10_120, w84]
  exact ⟨hi, hk⟩
theorem R_puts {k f v : Int32} (hi : vp_in (ixF k f) 120) (hk : K none (si σ 1 (ixF k f).toNatClampNeg v)) : Rn 1 ev mM_puts [.ref 0, .int k, .int f, .int v] σ K := by
  refine Rn_V (by decide) rc6 rfl rfl ?_
  refine PW_blk okM_puts 0 rfl SpR ?_
  simp only [wL0, wLc, true_and, w2, lg0, lgi, lgr, lgl, w35, kM0, rM0, kM1, nM1, w0, w1, w13, w11, w40, tn10, vi10_120, w87]
  exact ⟨hi, hk⟩
theorem R_no {w : Int32} (hi : vp_in w 7) (hk : K (some (.int (noF w))) (noS σ w)) : Rn 1 ev mM_no [.ref 0, .int w] σ K := by
  refine Rn_V (by decide) rc6 rfl rfl ?_
  refine PW_blk okM_no 0 rfl SpR ?_
  simp only [wL0, wLc, true_and, w2, lg0, lgi, lgr, lgl, w35, kM0, rM4, kM4, nM4, w1, w10i, w10r, w39, w0, w11, w40, w12, tn1, w84]
  exact ⟨hi, hi, hk⟩
theorem R_allLocks (hk : K (some (.int (alF (σ.1 1 3)))) σ) : Rn 1 ev mM_allLocks [.ref 0] σ K := by
  refine Rn_V (by decide) rc6 rfl rfl ?_
  refine PW_blk okM_allLocks 0 rfl SpR ?_
  simp only [wL0, wLc, true_and, w0, w2, lg0, lgi, lgr, lgl, w35, kM0, rM0, kM1, nM1, w39, w19, w12, tn1, vi1_120, tn3, vi3_120, w84]
  exact hk
theorem R_isOut {o : Int32} (hk : K (some (.int (outF (σ.1 1 6) o))) σ) : Rn 1 ev mM_isOut [.ref 0, .int o] σ K := by
  unfold outF at hk
  refine Rn_V (by decide) rc6 rfl rfl ?_
  refine PW_blk okM_isOut 0 rfl SpR ?_
  simp only [wL0, wLc, true_and, w2, lg0, lgi, lgr, lgl, w35, kM0, rM0, kM1, nM1, w0, w39, w1, w18, w16, tn6, vi6_120, w73]
  refine ⟨fun h => ?_, fun h => ?_⟩
  · rw [if_neg h] at hk
    refine PW_blk okM_isOut 2 rfl SpR ?_
    simp only [wL0, wLc, true_and, w0, w71]
    refine PW_blk okM_isOut 3 rfl SpR ?_
    simp only [wL0, w85]
    exact ⟨Or.inl trivial, hk⟩
  · rw [if_pos h] at hk
    refine PW_blk okM_isOut 1 rfl SpR ?_
    simp only [wL0, wLc, true_and, w0, w70]
    refine PW_blk okM_isOut 3 rfl SpR ?_
    simp only [wL0, w85]
    exact ⟨Or.inr trivial, hk⟩
theorem R_doesPlay {x : Int32} (hk : K (some (.int (plF (σ.1 1 7) (σ.1 1 8) x))) σ) : Rn 1 ev mM_doesPlay [.ref 0, .int x] σ K := by
  unfold plF at hk
  refine Rn_V (by decide) rc6 rfl rfl ?_
  refine PW_blk okM_doesPlay 0 rfl SpR ?_
  simp only [wL0, wLc, true_and, w2, lg0, lgi, lgr, lgl, w35, kM0, rM0, kM1, nM1, w0, w39, w11, w4, ls00, ls0i, ls0r, ls0l, lsi, lsr, lsl, Option.map_some, w1, tn7, vi7_120, tn8, vi8_120, w77]
  refine ⟨fun h => ?_, fun h => ?_⟩
  · rw [if_neg h] at hk
    refine PW_blk okM_doesPlay 3 rfl SpR ?_
    simp only [wL0, wLc, true_and, w0, w71]
    refine PW_blk okM_doesPlay 4 rfl SpR ?_
    simp only [wL0, w85]
    exact ⟨Or.inl trivial, hk⟩
  rw [if_pos h] at hk
  refine PW_blk okM_doesPlay 1 rfl SpR ?_
  simp only [wL0, wLc, true_and, w1, lg0, lgi, lgr, lgl, w15, w2, w35, kM0, rM0, kM1, nM1, w0, w39, tn7, vi7_120, w81]
  refine ⟨fun e => by rw [e] at h; exact absurd h (by decide), fun h2 => ?_, fun h2 => ?_⟩
  · rw [if_neg h2] at hk
    refine PW_blk okM_doesPlay 3 rfl SpR ?_
    simp only [wL0, wLc, true_and, w0, w71]
    refine PW_blk okM_doesPlay 4 rfl SpR ?_
    simp only [wL0, w85]
    exact ⟨Or.inl trivial, hk⟩
  · rw [if_pos h2] at hk
    refine PW_blk okM_doesPlay 2 rfl SpR ?_
    simp only [wL0, wLc, true_and, w0, w70]
    refine PW_blk okM_doesPlay 4 rfl SpR ?_
    simp only [wL0, w85]
    exact ⟨Or.inr trivial, hk⟩
theorem R_above {x : Int32} (hk : K (some (.int (abF x))) σ) : Rn 1 ev mM_above [.int x] σ K := by
  unfold abF at hk
  refine Rn_S (by decide) rfl rfl rfl ?_
  refine PW_blk okM_above 0 rfl SpR ?_
  simp only [wL0, wLc, true_and, w1, lg0, lgi, lgr, lgl, w0, w79]
  refine ⟨fun h => ?_, fun h => ?_⟩
  rotate_left
  · rw [if_pos h] at hk
    refine PW_blk okM_above 1 rfl SpR ?_
    simp only [wL0, wLc, true_and, w0, w70]
    refine PW_blk okM_above 7 rfl SpR ?_
    simp only [wL0, w84]
    exact hk
  rw [if_neg h] at hk
  refine PW_blk okM_above 2 rfl SpR ?_
  simp only [wL0, wLc, true_and, w1, lg0, lgi, lgr, lgl, w0, w79]
  refine ⟨fun h => ?_, fun h => ?_⟩
  rotate_left
  · rw [if_pos h] at hk
    refine PW_blk okM_above 3 rfl SpR ?_
    simp only [wL0, wLc, true_and, w0, w70]
    refine PW_blk okM_above 7 rfl SpR ?_
    simp only [wL0, w84]
    exact hk
  rw [if_neg h] at hk
  refine PW_blk okM_above 4 rfl SpR ?_
  simp only [wL0, wLc, true_and, w1, lg0, lgi, lgr, lgl, w0, w79]
  refine ⟨fun h => ?_, fun h => ?_⟩
  rotate_left
  · rw [if_pos h] at hk
    refine PW_blk okM_above 5 rfl SpR ?_
    simp only [wL0, wLc, true_and, w0, w70]
    refine PW_blk okM_above 7 rfl SpR ?_
    simp only [wL0, w84]
    exact hk
  rw [if_neg h] at hk
  refine PW_blk okM_above 6 rfl SpR ?_
  simp only [wL0, wLc, true_and, w0, w71]
  refine PW_blk okM_above 7 rfl SpR ?_
  simp only [wL0, w84]
  exact hk
theorem R_isLock {k : Int32} (hk : K (some (.int (in1F k 0 (σ.1 1 3 - 1)))) σ) : Rn 1 ev mM_isLock [.ref 0, .int k] σ K := by
  refine Rn_V (by decide) rc6 rfl rfl ?_
  refine PW_blk okM_isLock 0 rfl SpR ?_
  simp only [wL0, wLc, true_and, w1, lg0, lgi, lgr, lgl, w0, w2, w35, kM0, rM0, kM1, nM1, w39, w12, w55_3, q40, q41, q42, q43, q44, Option.toList_some, Option.toList_none, List.cons_append, List.nil_append, tn0, vi0_120, tn1, vi1_120, tn3, vi3_120, w85]
  refine R_in1 ?_
  simp only [wL0, wLc, true_and, w1, lg0, lgi, lgr, lgl, w0, w2, w35, kM0, rM0, kM1, nM1, w39, w12, w55_3, q40, q41, q42, q43, q44, Option.toList_some, Option.toList_none, List.cons_append, List.nil_append, tn0, vi0_120, tn1, vi1_120, tn3, vi3_120, w85]
  exact ⟨in1F_01 _ _ _, hk⟩
theorem R_isSheet {k : Int32} (hk : K (some (.int (in1F k 0 3))) σ) : Rn 1 ev mM_isSheet [.int k] σ K := by
  refine Rn_S (by decide) rfl rfl rfl ?_
  refine PW_blk okM_isSheet 0 rfl SpR ?_
  simp only [wL0, wLc, true_and, w1, lg0, lgi, lgr, lgl, w0, w55_3, q40, q41, q42, q43, q44, Option.toList_some, Option.toList_none, List.cons_append, List.nil_append, w85]
  refine R_in1 ?_
  simp only [wL0, wLc, true_and, w1, lg0, lgi, lgr, lgl, w0, w55_3, q40, q41, q42, q43, q44, Option.toList_some, Option.toList_none, List.cons_append, List.nil_append, w85]
  exact ⟨in1F_01 _ _ _, hk⟩
theorem R_isSpot {k : Int32} (hk : K (some (.int (in1F k 0 9))) σ) : Rn 1 ev mM_isSpot [.int k] σ K := by
  refine Rn_S (by decide) rfl rfl rfl ?_
  refine PW_blk okM_isSpot 0 rfl SpR ?_
  simp only [wL0, wLc, true_and, w1, lg0, lgi, lgr, lgl, w0, w55_3, q40, q41, q42, q43, q44, Option.toList_some, Option.toList_none, List.cons_append, List.nil_append, w85]
  refine R_in1 ?_
  simp only [wL0, wLc, true_and, w1, lg0, lgi, lgr, lgl, w0, w55_3, q40, q41, q42, q43, q44, Option.toList_some, Option.toList_none, List.cons_append, List.nil_append, w85]
  exact ⟨in1F_01 _ _ _, hk⟩
theorem R_isLetter {k : Int32} (hk : K (some (.int (in1F k 97 122))) σ) : Rn 1 ev mM_isLetter [.int k] σ K := by
  refine Rn_S (by decide) rfl rfl rfl ?_
  refine PW_blk okM_isLetter 0 rfl SpR ?_
  simp only [wL0, wLc, true_and, w1, lg0, lgi, lgr, lgl, w0, w55_3, q40, q41, q42, q43, q44, Option.toList_some, Option.toList_none, List.cons_append, List.nil_append, w85]
  refine R_in1 ?_
  simp only [wL0, wLc, true_and, w1, lg0, lgi, lgr, lgl, w0, w55_3, q40, q41, q42, q43, q44, Option.toList_some, Option.toList_none, List.cons_append, List.nil_append, w85]
  exact ⟨in1F_01 _ _ _, hk⟩
theorem R_isDigit {k : Int32} (hk : K (some (.int (in1F k 48 57))) σ) : Rn 1 ev mM_isDigit [.int k] σ K := by
  refine Rn_S (by decide) rfl rfl rfl ?_
  refine PW_blk okM_isDigit 0 rfl SpR ?_
  simp only [wL0, wLc, true_and, w1, lg0, lgi, lgr, lgl, w0, w55_3, q40, q41, q42, q43, q44, Option.toList_some, Option.toList_none, List.cons_append, List.nil_append, w85]
  refine R_in1 ?_
  simp only [wL0, wLc, true_and, w1, lg0, lgi, lgr, lgl, w0, w55_3, q40, q41, q42, q43, q44, Option.toList_some, Option.toList_none, List.cons_append, List.nil_append, w85]
  exact ⟨in1F_01 _ _ _, hk⟩
end LM
/-- the leaves by rule: a call of one of these is read off at once -/
def SpM (ev : EV) : SPT := fun y as σ K =>
  if y = mM_in1 then (match as with | [.int v, .int a, .int b] => K (some (.int (in1F v a b))) σ | _ => False) else
  if y = mM_most then (match as with | [.int a, .int b] => K (some (.int (mostF a b))) σ | _ => False) else
  if y = mM_isIn then (match as with | [.int a, .int b] => K (some (.int (isInF a b))) σ | _ => False) else
  if y = mM_get then (match as with | [.ref 0, .int k, .int f] => vp_in (ixF k f) 120 ∧ K (some (.int (σ.1 1 (ixF k f).toNatClampNeg))) σ | _ => False) else
  if y = mM_puts then (match as with | [.ref 0, .int k, .int f, .int v] => vp_in (ixF k f) 120 ∧ K none (si σ 1 (ixF k f).toNatClampNeg v) | _ => False) else
  if y = mM_no then (match as with | [.ref 0, .int w] => vp_in w 7 ∧ K (some (.int (noF w))) (noS σ w) | _ => False) else
  if y = mM_allLocks then (match as with | [.ref 0] => K (some (.int (alF (σ.1 1 3)))) σ | _ => False) else
  if y = mM_isOut then (match as with | [.ref 0, .int o] => K (some (.int (outF (σ.1 1 6) o))) σ | _ => False) else
  if y = mM_doesPlay then (match as with | [.ref 0, .int x] => K (some (.int (plF (σ.1 1 7) (σ.1 1 8) x))) σ | _ => False) else
  if y = mM_above then (match as with | [.int x] => K (some (.int (abF x))) σ | _ => False) else
  if y = mM_isLock then (match as with | [.ref 0, .int k] => K (some (.int (in1F k 0 (σ.1 1 3 - 1)))) σ | _ => False) else
  if y = mM_isSheet then (match as with | [.int k] => K (some (.int (in1F k 0 3))) σ | _ => False) else
  if y = mM_isSpot then (match as with | [.int k] => K (some (.int (in1F k 0 9))) σ | _ => False) else
  if y = mM_isLetter then (match as with | [.int k] => K (some (.int (in1F k 97 122))) σ | _ => False) else
  if y = mM_isDigit then (match as with | [.int k] => K (some (.int (in1F k 48 57))) σ | _ => False) else
  Rn 1 ev y as σ K
theorem sp_in1 {ev : EV} {σ : St2} {K : PO} {v a b : Int32} : SpM ev mM_in1 [.int v, .int a, .int b] σ K = (K (some (.int (in1F v a b))) σ) := rfl
theorem sp_most {ev : EV} {σ : St2} {K : PO} {a b : Int32} : SpM ev mM_most [.int a, .int b] σ K = (K (some (.int (mostF a b))) σ) := rfl
theorem sp_isIn {ev : EV} {σ : St2} {K : PO} {a b : Int32} : SpM ev mM_isIn [.int a, .int b] σ K = (K (some (.int (isInF a b))) σ) := rfl
theorem sp_get {ev : EV} {σ : St2} {K : PO} {k f : Int32} : SpM ev mM_get [.ref 0, .int k, .int f] σ K = (vp_in (ixF k f) 120 ∧ K (some (.int (σ.1 1 (ixF k f).toNatClampNeg))) σ) := rfl
theorem sp_puts {ev : EV} {σ : St2} {K : PO} {k f v : Int32} : SpM ev mM_puts [.ref 0, .int k, .int f, .int v] σ K = (vp_in (ixF k f) 120 ∧ K none (si σ 1 (ixF k f).toNatClampNeg v)) := rfl
theorem sp_no {ev : EV} {σ : St2} {K : PO} {w : Int32} : SpM ev mM_no [.ref 0, .int w] σ K = (vp_in w 7 ∧ K (some (.int (noF w))) (noS σ w)) := rfl
theorem sp_allLocks {ev : EV} {σ : St2} {K : PO}  : SpM ev mM_allLocks [.ref 0] σ K = (K (some (.int (alF (σ.1 1 3)))) σ) := rfl
theorem sp_isOut {ev : EV} {σ : St2} {K : PO} {o : Int32} : SpM ev mM_isOut [.ref 0, .int o] σ K = (K (some (.int (outF (σ.1 1 6) o))) σ) := rfl
theorem sp_doesPlay {ev : EV} {σ : St2} {K : PO} {x : Int32} : SpM ev mM_doesPlay [.ref 0, .int x] σ K = (K (some (.int (plF (σ.1 1 7) (σ.1 1 8) x))) σ) := rfl
theorem sp_above {ev : EV} {σ : St2} {K : PO} {x : Int32} : SpM ev mM_above [.int x] σ K = (K (some (.int (abF x))) σ) := rfl
theorem sp_isLock {ev : EV} {σ : St2} {K : PO} {k : Int32} : SpM ev mM_isLock [.ref 0, .int k] σ K = (K (some (.int (in1F k 0 (σ.1 1 3 - 1)))) σ) := rfl
theorem sp_isSheet {ev : EV} {σ : St2} {K : PO} {k : Int32} : SpM ev mM_isSheet [.int k] σ K = (K (some (.int (in1F k 0 3))) σ) := rfl
theorem sp_isSpot {ev : EV} {σ : St2} {K : PO} {k : Int32} : SpM ev mM_isSpot [.int k] σ K = (K (some (.int (in1F k 0 9))) σ) := rfl
theorem sp_isLetter {ev : EV} {σ : St2} {K : PO} {k : Int32} : SpM ev mM_isLetter [.int k] σ K = (K (some (.int (in1F k 97 122))) σ) := rfl
theorem sp_isDigit {ev : EV} {σ : St2} {K : PO} {k : Int32} : SpM ev mM_isDigit [.int k] σ K = (K (some (.int (in1F k 48 57))) σ) := rfl
theorem SpM_ok {ev : EV} : ∀ y as σ K, SpM ev y as σ K → Rn 1 ev y as σ K := by
  intro y as σ K h
  unfold SpM at h
  by_cases e : y = mM_in1
  · rw [if_pos e] at h
    subst e
    split at h
    next => exact R_in1 h
    next => exact h.elim
  rw [if_neg e] at h
  clear e
  by_cases e : y = mM_most
  · rw [if_pos e] at h
    subst e
    split at h
    next => exact R_most h
    next => exact h.elim
  rw [if_neg e] at h
  clear e
  by_cases e : y = mM_isIn
  · rw [if_pos e] at h
    subst e
    split at h
    next => exact R_isIn h
    next => exact h.elim
  rw [if_neg e] at h
  clear e
  by_cases e : y = mM_get
  · rw [if_pos e] at h
    subst e
    split at h
    next => exact R_get h.1 h.2
    next => exact h.elim
  rw [if_neg e] at h
  clear e
  by_cases e : y = mM_puts
  · rw [if_pos e] at h
    subst e
    split at h
    next => exact R_puts h.1 h.2
    next => exact h.elim
  rw [if_neg e] at h
  clear e
  by_cases e : y = mM_no
  · rw [if_pos e] at h
    subst e
    split at h
    next => exact R_no h.1 h.2
    next => exact h.elim
  rw [if_neg e] at h
  clear e
  by_cases e : y = mM_allLocks
  · rw [if_pos e] at h
    subst e
    split at h
    next => exact R_allLocks h
    next => exact h.elim
  rw [if_neg e] at h
  clear e
  by_cases e : y = mM_isOut
  · rw [if_pos e] at h
    subst e
    split at h
    next => exact R_isOut h
    next => exact h.elim
  rw [if_neg e] at h
  clear e
  by_cases e : y = mM_doesPlay
  · rw [if_pos e] at h
    subst e
    split at h
    next => exact R_doesPlay h
    next => exact h.elim
  rw [if_neg e] at h
  clear e
  by_cases e : y = mM_above
  · rw [if_pos e] at h
    subst e
    split at h
    next => exact R_above h
    next => exact h.elim
  rw [if_neg e] at h
  clear e
  by_cases e : y = mM_isLock
  · rw [if_pos e] at h
    subst e
    split at h
    next => exact R_isLock h
    next => exact h.elim
  rw [if_neg e] at h
  clear e
  by_cases e : y = mM_isSheet
  · rw [if_pos e] at h
    subst e
    split at h
    next => exact R_isSheet h
    next => exact h.elim
  rw [if_neg e] at h
  clear e
  by_cases e : y = mM_isSpot
  · rw [if_pos e] at h
    subst e
    split at h
    next => exact R_isSpot h
    next => exact h.elim
  rw [if_neg e] at h
  clear e
  by_cases e : y = mM_isLetter
  · rw [if_pos e] at h
    subst e
    split at h
    next => exact R_isLetter h
    next => exact h.elim
  rw [if_neg e] at h
  clear e
  by_cases e : y = mM_isDigit
  · rw [if_pos e] at h
    subst e
    split at h
    next => exact R_isDigit h
    next => exact h.elim
  rw [if_neg e] at h
  clear e
  exact h
