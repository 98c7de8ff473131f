/-! facts of the cells, of literals, calls by arity -/
theorem w54_0 {g : Nat} {Sp : SPT} {ls st : List Value} {σ : St2} {K : KT} {i y : Nat} {v : Int32}  : wpI g Sp (54, i, 0, y, v) ls (st) σ K = le4 st (Sp y [] σ (fun r σ => K ls (r.toList ++ st) σ)) := by
  show le4 st (0 ≤ (st).length ∧ _) = _
  rw [eq_true (show 0 ≤ (st).length by first | exact Nat.zero_le _ | (simp only [List.length_cons]; omega)), true_and]
  rfl
theorem w54_1 {g : Nat} {Sp : SPT} {ls st : List Value} {σ : St2} {K : KT} {i y : Nat} {v : Int32} {a0 : Value} : wpI g Sp (54, i, 1, y, v) ls (a0 :: st) σ K = le4 st (Sp y [a0] σ (fun r σ => K ls (r.toList ++ st) σ)) := by
  show le4 st (1 ≤ (a0 :: st).length ∧ _) = _
  rw [eq_true (show 1 ≤ (a0 :: st).length by first | exact Nat.zero_le _ | (simp only [List.length_cons]; omega)), true_and]
  rfl
theorem w54_2 {g : Nat} {Sp : SPT} {ls st : List Value} {σ : St2} {K : KT} {i y : Nat} {v : Int32} {a0 a1 : Value} : wpI g Sp (54, i, 2, y, v) ls (a1 :: a0 :: st) σ K = le4 st (Sp y [a0, a1] σ (fun r σ => K ls (r.toList ++ st) σ)) := by
  show le4 st (2 ≤ (a1 :: a0 :: st).length ∧ _) = _
  rw [eq_true (show 2 ≤ (a1 :: a0 :: st).length by first | exact Nat.zero_le _ | (simp only [List.length_cons]; omega)), true_and]
  rfl
theorem w54_3 {g : Nat} {Sp : SPT} {ls st : List Value} {σ : St2} {K : KT} {i y : Nat} {v : Int32} {a0 a1 a2 : Value} : wpI g Sp (54, i, 3, y, v) ls (a2 :: a1 :: a0 :: st) σ K = le4 st (Sp y [a0, a1, a2] σ (fun r σ => K ls (r.toList ++ st) σ)) := by
  show le4 st (3 ≤ (a2 :: a1 :: a0 :: st).length ∧ _) = _
  rw [eq_true (show 3 ≤ (a2 :: a1 :: a0 :: st).length by first | exact Nat.zero_le _ | (simp only [List.length_cons]; omega)), true_and]
  rfl
theorem w54_4 {g : Nat} {Sp : SPT} {ls st : List Value} {σ : St2} {K : KT} {i y : Nat} {v : Int32} {a0 a1 a2 a3 : Value} : wpI g Sp (54, i, 4, y, v) ls (a3 :: a2 :: a1 :: a0 :: st) σ K = le4 st (Sp y [a0, a1, a2, a3] σ (fun r σ => K ls (r.toList ++ st) σ)) := by
  show le4 st (4 ≤ (a3 :: a2 :: a1 :: a0 :: st).length ∧ _) = _
  rw [eq_true (show 4 ≤ (a3 :: a2 :: a1 :: a0 :: st).length by first | exact Nat.zero_le _ | (simp only [List.length_cons]; omega)), true_and]
  rfl
theorem w54_5 {g : Nat} {Sp : SPT} {ls st : List Value} {σ : St2} {K : KT} {i y : Nat} {v : Int32} {a0 a1 a2 a3 a4 : Value} : wpI g Sp (54, i, 5, y, v) ls (a4 :: a3 :: a2 :: a1 :: a0 :: st) σ K = le4 st (Sp y [a0, a1, a2, a3, a4] σ (fun r σ => K ls (r.toList ++ st) σ)) := by
  show le4 st (5 ≤ (a4 :: a3 :: a2 :: a1 :: a0 :: st).length ∧ _) = _
  rw [eq_true (show 5 ≤ (a4 :: a3 :: a2 :: a1 :: a0 :: st).length by first | exact Nat.zero_le _ | (simp only [List.length_cons]; omega)), true_and]
  rfl
theorem w54_6 {g : Nat} {Sp : SPT} {ls st : List Value} {σ : St2} {K : KT} {i y : Nat} {v : Int32} {a0 a1 a2 a3 a4 a5 : Value} : wpI g Sp (54, i, 6, y, v) ls (a5 :: a4 :: a3 :: a2 :: a1 :: a0 :: st) σ K = le4 st (Sp y [a0, a1, a2, a3, a4, a5] σ (fun r σ => K ls (r.toList ++ st) σ)) := by
  show le4 st (6 ≤ (a5 :: a4 :: a3 :: a2 :: a1 :: a0 :: st).length ∧ _) = _
  rw [eq_true (show 6 ≤ (a5 :: a4 :: a3 :: a2 :: a1 :: a0 :: st).length by first | exact Nat.zero_le _ | (simp only [List.length_cons]; omega)), true_and]
  rfl
theorem w54_7 {g : Nat} {Sp : SPT} {ls st : List Value} {σ : St2} {K : KT} {i y : Nat} {v : Int32} {a0 a1 a2 a3 a4 a5 a6 : Value} : wpI g Sp (54, i, 7, y, v) ls (a6 :: a5 :: a4 :: a3 :: a2 :: a1 :: a0 :: st) σ K = le4 st (Sp y [a0, a1, a2, a3, a4, a5, a6] σ (fun r σ => K ls (r.toList ++ st) σ)) := by
  show le4 st (7 ≤ (a6 :: a5 :: a4 :: a3 :: a2 :: a1 :: a0 :: st).length ∧ _) = _
  rw [eq_true (show 7 ≤ (a6 :: a5 :: a4 :: a3 :: a2 :: a1 :: a0 :: st).length by first | exact Nat.zero_le _ | (simp only [List.length_cons]; omega)), true_and]
  rfl
theorem w55_0 {g : Nat} {Sp : SPT} {ls st : List Value} {σ : St2} {K : KT} {i y : Nat} {v : Int32}  : wpI g Sp (55, i, 0, y, v) ls (st) σ K = le4 st (Sp y [] σ (fun r σ => K ls (r.toList ++ st) σ)) := by
  show le4 st (0 ≤ (st).length ∧ _) = _
  rw [eq_true (show 0 ≤ (st).length by first | exact Nat.zero_le _ | (simp only [List.length_cons]; omega)), true_and]
  rfl
theorem w55_1 {g : Nat} {Sp : SPT} {ls st : List Value} {σ : St2} {K : KT} {i y : Nat} {v : Int32} {a0 : Value} : wpI g Sp (55, i, 1, y, v) ls (a0 :: st) σ K = le4 st (Sp y [a0] σ (fun r σ => K ls (r.toList ++ st) σ)) := by
  show le4 st (1 ≤ (a0 :: st).length ∧ _) = _
  rw [eq_true (show 1 ≤ (a0 :: st).length by first | exact Nat.zero_le _ | (simp only [List.length_cons]; omega)), true_and]
  rfl
theorem w55_2 {g : Nat} {Sp : SPT} {ls st : List Value} {σ : St2} {K : KT} {i y : Nat} {v : Int32} {a0 a1 : Value} : wpI g Sp (55, i, 2, y, v) ls (a1 :: a0 :: st) σ K = le4 st (Sp y [a0, a1] σ (fun r σ => K ls (r.toList ++ st) σ)) := by
  show le4 st (2 ≤ (a1 :: a0 :: st).length ∧ _) = _
  rw [eq_true (show 2 ≤ (a1 :: a0 :: st).length by first | exact Nat.zero_le _ | (simp only [List.length_cons]; omega)), true_and]
  rfl
theorem w55_3 {g : Nat} {Sp : SPT} {ls st : List Value} {σ : St2} {K : KT} {i y : Nat} {v : Int32} {a0 a1 a2 : Value} : wpI g Sp (55, i, 3, y, v) ls (a2 :: a1 :: a0 :: st) σ K = le4 st (Sp y [a0, a1, a2] σ (fun r σ => K ls (r.toList ++ st) σ)) := by
  show le4 st (3 ≤ (a2 :: a1 :: a0 :: st).length ∧ _) = _
  rw [eq_true (show 3 ≤ (a2 :: a1 :: a0 :: st).length by first | exact Nat.zero_le _ | (simp only [List.length_cons]; omega)), true_and]
  rfl
theorem w55_4 {g : Nat} {Sp : SPT} {ls st : List Value} {σ : St2} {K : KT} {i y : Nat} {v : Int32} {a0 a1 a2 a3 : Value} : wpI g Sp (55, i, 4, y, v) ls (a3 :: a2 :: a1 :: a0 :: st) σ K = le4 st (Sp y [a0, a1, a2, a3] σ (fun r σ => K ls (r.toList ++ st) σ)) := by
  show le4 st (4 ≤ (a3 :: a2 :: a1 :: a0 :: st).length ∧ _) = _
  rw [eq_true (show 4 ≤ (a3 :: a2 :: a1 :: a0 :: st).length by first | exact Nat.zero_le _ | (simp only [List.length_cons]; omega)), true_and]
  rfl
theorem w55_5 {g : Nat} {Sp : SPT} {ls st : List Value} {σ : St2} {K : KT} {i y : Nat} {v : Int32} {a0 a1 a2 a3 a4 : Value} : wpI g Sp (55, i, 5, y, v) ls (a4 :: a3 :: a2 :: a1 :: a0 :: st) σ K = le4 st (Sp y [a0, a1, a2, a3, a4] σ (fun r σ => K ls (r.toList ++ st) σ)) := by
  show le4 st (5 ≤ (a4 :: a3 :: a2 :: a1 :: a0 :: st).length ∧ _) = _
  rw [eq_true (show 5 ≤ (a4 :: a3 :: a2 :: a1 :: a0 :: st).length by first | exact Nat.zero_le _ | (simp only [List.length_cons]; omega)), true_and]
  rfl
theorem w55_6 {g : Nat} {Sp : SPT} {ls st : List Value} {σ : St2} {K : KT} {i y : Nat} {v : Int32} {a0 a1 a2 a3 a4 a5 : Value} : wpI g Sp (55, i, 6, y, v) ls (a5 :: a4 :: a3 :: a2 :: a1 :: a0 :: st) σ K = le4 st (Sp y [a0, a1, a2, a3, a4, a5] σ (fun r σ => K ls (r.toList ++ st) σ)) := by
  show le4 st (6 ≤ (a5 :: a4 :: a3 :: a2 :: a1 :: a0 :: st).length ∧ _) = _
  rw [eq_true (show 6 ≤ (a5 :: a4 :: a3 :: a2 :: a1 :: a0 :: st).length by first | exact Nat.zero_le _ | (simp only [List.length_cons]; omega)), true_and]
  rfl
theorem w55_7 {g : Nat} {Sp : SPT} {ls st : List Value} {σ : St2} {K : KT} {i y : Nat} {v : Int32} {a0 a1 a2 a3 a4 a5 a6 : Value} : wpI g Sp (55, i, 7, y, v) ls (a6 :: a5 :: a4 :: a3 :: a2 :: a1 :: a0 :: st) σ K = le4 st (Sp y [a0, a1, a2, a3, a4, a5, a6] σ (fun r σ => K ls (r.toList ++ st) σ)) := by
  show le4 st (7 ≤ (a6 :: a5 :: a4 :: a3 :: a2 :: a1 :: a0 :: st).length ∧ _) = _
  rw [eq_true (show 7 ≤ (a6 :: a5 :: a4 :: a3 :: a2 :: a1 :: a0 :: st).length by first | exact Nat.zero_le _ | (simp only [List.length_cons]; omega)), true_and]
  rfl
theorem kM0 : (0 < nC 1 ∧ (shp 1 0).1 = 6) = True := eq_true ⟨by decide, rfl⟩
theorem kM1 : (1 < nC 1 ∧ (shp 1 1).1 = 100) = True := eq_true ⟨by decide, rfl⟩
theorem nM1 : (shp 1 1).2 = 120 := rfl
theorem kM2 : (2 < nC 1 ∧ (shp 1 2).1 = 100) = True := eq_true ⟨by decide, rfl⟩
theorem nM2 : (shp 1 2).2 = 120 := rfl
theorem kM3 : (3 < nC 1 ∧ (shp 1 3).1 = 100) = True := eq_true ⟨by decide, rfl⟩
theorem nM3 : (shp 1 3).2 = 120 := rfl
theorem kM4 : (4 < nC 1 ∧ (shp 1 4).1 = 100) = True := eq_true ⟨by decide, rfl⟩
theorem nM4 : (shp 1 4).2 = 7 := rfl
theorem kM5 : (5 < nC 1 ∧ (shp 1 5).1 = 100) = True := eq_true ⟨by decide, rfl⟩
theorem nM5 : (shp 1 5).2 = 1024 := rfl
theorem kM6 : (6 < nC 1 ∧ (shp 1 6).1 = 100) = True := eq_true ⟨by decide, rfl⟩
theorem nM6 : (shp 1 6).2 = 10 := rfl
theorem kM7 : (7 < nC 1 ∧ (shp 1 7).1 = 100) = True := eq_true ⟨by decide, rfl⟩
theorem nM7 : (shp 1 7).2 = 1024 := rfl
theorem kM8 : (8 < nC 1 ∧ (shp 1 8).1 = 100) = True := eq_true ⟨by decide, rfl⟩
theorem nM8 : (shp 1 8).2 = 120 := rfl
theorem kM9 : (9 < nC 1 ∧ (shp 1 9).1 = 101) = True := eq_true ⟨by decide, rfl⟩
theorem nM9 : (shp 1 9).2 = 42 := rfl
theorem kM10 : (10 < nC 1 ∧ (shp 1 10).1 = 101) = True := eq_true ⟨by decide, rfl⟩
theorem nM10 : (shp 1 10).2 = 36 := rfl
theorem kM11 : (11 < nC 1 ∧ (shp 1 11).1 = 101) = True := eq_true ⟨by decide, rfl⟩
theorem nM11 : (shp 1 11).2 = 18 := rfl
theorem kM12 : (12 < nC 1 ∧ (shp 1 12).1 = 100) = True := eq_true ⟨by decide, rfl⟩
theorem nM12 : (shp 1 12).2 = 6 := rfl
theorem kM13 : (13 < nC 1 ∧ (shp 1 13).1 = 100) = True := eq_true ⟨by decide, rfl⟩
theorem nM13 : (shp 1 13).2 = 4 := rfl
theorem kM14 : (14 < nC 1 ∧ (shp 1 14).1 = 100) = True := eq_true ⟨by decide, rfl⟩
theorem nM14 : (shp 1 14).2 = 4 := rfl
theorem kM15 : (15 < nC 1 ∧ (shp 1 15).1 = 100) = True := eq_true ⟨by decide, rfl⟩
theorem nM15 : (shp 1 15).2 = 160 := rfl
theorem kM16 : (16 < nC 1 ∧ (shp 1 16).1 = 100) = True := eq_true ⟨by decide, rfl⟩
theorem nM16 : (shp 1 16).2 = 40 := rfl
theorem rM0 : rfs 1 0 0 = 1 := rfl
theorem rM1 : rfs 1 0 1 = 2 := rfl
theorem rM2 : rfs 1 0 2 = 3 := rfl
theorem rM4 : rfs 1 0 4 = 4 := rfl
theorem rM5 : rfs 1 0 5 = 5 := rfl
theorem rM6 : rfs 1 0 6 = 6 := rfl
theorem rM8 : rfs 1 0 8 = 7 := rfl
theorem rM10 : rfs 1 0 10 = 8 := rfl
theorem rM16 : rfs 1 0 16 = 9 := rfl
theorem rM17 : rfs 1 0 17 = 10 := rfl
theorem rM18 : rfs 1 0 18 = 11 := rfl
theorem rM19 : rfs 1 0 19 = 12 := rfl
theorem rM20 : rfs 1 0 20 = 13 := rfl
theorem rM21 : rfs 1 0 21 = 14 := rfl
theorem rM22 : rfs 1 0 22 = 15 := rfl
theorem rM23 : rfs 1 0 23 = 16 := rfl
theorem kX0 : (0 < nC 0 ∧ (shp 0 0).1 = 5) = True := eq_true ⟨by decide, rfl⟩
theorem kX1 : (1 < nC 0 ∧ (shp 0 1).1 = 0) = True := eq_true ⟨by decide, rfl⟩
theorem kX15 : (15 < nC 0 ∧ (shp 0 15).1 = 0) = True := eq_true ⟨by decide, rfl⟩
theorem kX29 : (29 < nC 0 ∧ (shp 0 29).1 = 0) = True := eq_true ⟨by decide, rfl⟩
theorem kX43 : (43 < nC 0 ∧ (shp 0 43).1 = 4) = True := eq_true ⟨by decide, rfl⟩
theorem kX44 : (44 < nC 0 ∧ (shp 0 44).1 = 100) = True := eq_true ⟨by decide, rfl⟩
theorem nX44 : (shp 0 44).2 = 1024 := rfl
theorem kX45 : (45 < nC 0 ∧ (shp 0 45).1 = 100) = True := eq_true ⟨by decide, rfl⟩
theorem nX45 : (shp 0 45).2 = 1024 := rfl
theorem kX46 : (46 < nC 0 ∧ (shp 0 46).1 = 100) = True := eq_true ⟨by decide, rfl⟩
theorem nX46 : (shp 0 46).2 = 1024 := rfl
theorem kX47 : (47 < nC 0 ∧ (shp 0 47).1 = 100) = True := eq_true ⟨by decide, rfl⟩
theorem nX47 : (shp 0 47).2 = 1024 := rfl
theorem kX48 : (48 < nC 0 ∧ (shp 0 48).1 = 100) = True := eq_true ⟨by decide, rfl⟩
theorem nX48 : (shp 0 48).2 = 1024 := rfl
theorem kX49 : (49 < nC 0 ∧ (shp 0 49).1 = 100) = True := eq_true ⟨by decide, rfl⟩
theorem nX49 : (shp 0 49).2 = 10 := rfl
theorem kX50 : (50 < nC 0 ∧ (shp 0 50).1 = 2) = True := eq_true ⟨by decide, rfl⟩
theorem kX51 : (51 < nC 0 ∧ (shp 0 51).1 = 3) = True := eq_true ⟨by decide, rfl⟩
theorem kX52 : (52 < nC 0 ∧ (shp 0 52).1 = 100) = True := eq_true ⟨by decide, rfl⟩
theorem nX52 : (shp 0 52).2 = 120 := rfl
theorem kX53 : (53 < nC 0 ∧ ((shp 0 53).1 = 102 ∨ (shp 0 53).1 = 103)) = True := eq_true ⟨by decide, Or.inr rfl⟩
theorem nX53 : (shp 0 53).2 = 4 := rfl
theorem kX54 : (54 < nC 0 ∧ (shp 0 54).1 = 1) = True := eq_true ⟨by decide, rfl⟩
theorem kX55 : (55 < nC 0 ∧ (shp 0 55).1 = 100) = True := eq_true ⟨by decide, rfl⟩
theorem nX55 : (shp 0 55).2 = 40 := rfl
theorem kX56 : (56 < nC 0 ∧ (shp 0 56).1 = 1) = True := eq_true ⟨by decide, rfl⟩
theorem kX57 : (57 < nC 0 ∧ (shp 0 57).1 = 100) = True := eq_true ⟨by decide, rfl⟩
theorem nX57 : (shp 0 57).2 = 40 := rfl
theorem kX58 : (58 < nC 0 ∧ (shp 0 58).1 = 1) = True := eq_true ⟨by decide, rfl⟩
theorem kX59 : (59 < nC 0 ∧ (shp 0 59).1 = 100) = True := eq_true ⟨by decide, rfl⟩
theorem nX59 : (shp 0 59).2 = 40 := rfl
theorem kX60 : (60 < nC 0 ∧ (shp 0 60).1 = 1) = True := eq_true ⟨by decide, rfl⟩
theorem kX61 : (61 < nC 0 ∧ (shp 0 61).1 = 100) = True := eq_true ⟨by decide, rfl⟩
theorem nX61 : (shp 0 61).2 = 40 := rfl
theorem kX62 : (62 < nC 0 ∧ (shp 0 62).1 = 100) = True := eq_true ⟨by decide, rfl⟩
theorem nX62 : (shp 0 62).2 = 7 := rfl
theorem rX0_0 : rfs 0 0 0 = 1 := rfl
theorem rX0_1 : rfs 0 0 1 = 15 := rfl
theorem rX0_2 : rfs 0 0 2 = 29 := rfl
theorem rX0_3 : rfs 0 0 3 = 43 := rfl
theorem rX0_4 : rfs 0 0 4 = 50 := rfl
theorem rX0_5 : rfs 0 0 5 = 51 := rfl
theorem rX0_6 : rfs 0 0 6 = 53 := rfl
theorem rX0_7 : rfs 0 0 7 = 62 := rfl
theorem rX43_0 : rfs 0 43 0 = 1 := rfl
theorem rX43_1 : rfs 0 43 1 = 44 := rfl
theorem rX43_2 : rfs 0 43 2 = 45 := rfl
theorem rX43_3 : rfs 0 43 3 = 46 := rfl
theorem rX43_4 : rfs 0 43 4 = 47 := rfl
theorem rX43_5 : rfs 0 43 5 = 48 := rfl
theorem rX43_6 : rfs 0 43 6 = 49 := rfl
theorem rX50_0 : rfs 0 50 0 = 1 := rfl
theorem rX50_1 : rfs 0 50 1 = 43 := rfl
theorem rX51_0 : rfs 0 51 0 = 52 := rfl
theorem rX53_0 : rfs 0 53 0 = 54 := rfl
theorem rX53_1 : rfs 0 53 1 = 56 := rfl
theorem rX53_2 : rfs 0 53 2 = 58 := rfl
theorem rX53_3 : rfs 0 53 3 = 60 := rfl
theorem rX54_0 : rfs 0 54 0 = 55 := rfl
theorem rX56_0 : rfs 0 56 0 = 57 := rfl
theorem rX58_0 : rfs 0 58 0 = 59 := rfl
theorem rX60_0 : rfs 0 60 0 = 61 := rfl
def CH (c : Nat) : Prop := c = 1 ∨ c = 15 ∨ c = 29
theorem CH_k {c : Nat} (h : CH c) : (c < nC 0 ∧ (shp 0 c).1 = 0) = True := by rcases h with rfl | rfl | rfl <;> exact eq_true ⟨by decide, rfl⟩
theorem CH_t {c : Nat} (h : CH c) : (c + 1 < nC 0 ∧ ((shp 0 (c + 1)).1 = 102 ∨ (shp 0 (c + 1)).1 = 103)) = True := by rcases h with rfl | rfl | rfl <;> exact eq_true ⟨by decide, Or.inl rfl⟩
theorem CH_tn {c : Nat} (h : CH c) : (shp 0 (c + 1)).2 = 10 := by rcases h with rfl | rfl | rfl <;> rfl
theorem CH_a {c : Nat} (h : CH c) : ∀ f, f < 10 → (c + 2 + f < nC 0 ∧ (shp 0 (c + 2 + f)).1 = 100) = True ∧ (shp 0 (c + 2 + f)).2 = 10 ∧ rfs 0 (c + 1) f = c + 2 + f := by
  have key : ∀ c ∈ [1, 15, 29], ∀ f ∈ List.range 10, (c + 2 + f < nC 0 ∧ (shp 0 (c + 2 + f)).1 = 100) ∧ (shp 0 (c + 2 + f)).2 = 10 ∧ rfs 0 (c + 1) f = c + 2 + f := by decide +kernel
  intro f hf
  have h2 := key c (by rcases h with rfl | rfl | rfl <;> decide) f (List.mem_range.mpr hf)
  exact ⟨eq_true h2.1, h2.2⟩
theorem CH_a0 {c : Nat} (h : CH c) : (c + 2 < nC 0 ∧ (shp 0 (c + 2)).1 = 100) = True := (CH_a h 0 (by decide)).1
theorem CH_n0 {c : Nat} (h : CH c) : (shp 0 (c + 2)).2 = 10 := (CH_a h 0 (by decide)).2.1
theorem CH_f0 {c : Nat} (h : CH c) : rfs 0 (c + 1) 0 = c + 2 := (CH_a h 0 (by decide)).2.2
theorem CH_a1 {c : Nat} (h : CH c) : (c + 3 < nC 0 ∧ (shp 0 (c + 3)).1 = 100) = True := (CH_a h 1 (by decide)).1
theorem CH_n1 {c : Nat} (h : CH c) : (shp 0 (c + 3)).2 = 10 := (CH_a h 1 (by decide)).2.1
theorem CH_f1 {c : Nat} (h : CH c) : rfs 0 (c + 1) 1 = c + 3 := (CH_a h 1 (by decide)).2.2
theorem CH_a2 {c : Nat} (h : CH c) : (c + 4 < nC 0 ∧ (shp 0 (c + 4)).1 = 100) = True := (CH_a h 2 (by decide)).1
theorem CH_n2 {c : Nat} (h : CH c) : (shp 0 (c + 4)).2 = 10 := (CH_a h 2 (by decide)).2.1
theorem CH_f2 {c : Nat} (h : CH c) : rfs 0 (c + 1) 2 = c + 4 := (CH_a h 2 (by decide)).2.2
theorem CH_a3 {c : Nat} (h : CH c) : (c + 5 < nC 0 ∧ (shp 0 (c + 5)).1 = 100) = True := (CH_a h 3 (by decide)).1
theorem CH_n3 {c : Nat} (h : CH c) : (shp 0 (c + 5)).2 = 10 := (CH_a h 3 (by decide)).2.1
theorem CH_f3 {c : Nat} (h : CH c) : rfs 0 (c + 1) 3 = c + 5 := (CH_a h 3 (by decide)).2.2
theorem CH_a4 {c : Nat} (h : CH c) : (c + 6 < nC 0 ∧ (shp 0 (c + 6)).1 = 100) = True := (CH_a h 4 (by decide)).1
theorem CH_n4 {c : Nat} (h : CH c) : (shp 0 (c + 6)).2 = 10 := (CH_a h 4 (by decide)).2.1
theorem CH_f4 {c : Nat} (h : CH c) : rfs 0 (c + 1) 4 = c + 6 := (CH_a h 4 (by decide)).2.2
theorem CH_a5 {c : Nat} (h : CH c) : (c + 7 < nC 0 ∧ (shp 0 (c + 7)).1 = 100) = True := (CH_a h 5 (by decide)).1
theorem CH_n5 {c : Nat} (h : CH c) : (shp 0 (c + 7)).2 = 10 := (CH_a h 5 (by decide)).2.1
theorem CH_f5 {c : Nat} (h : CH c) : rfs 0 (c + 1) 5 = c + 7 := (CH_a h 5 (by decide)).2.2
theorem CH_a6 {c : Nat} (h : CH c) : (c + 8 < nC 0 ∧ (shp 0 (c + 8)).1 = 100) = True := (CH_a h 6 (by decide)).1
theorem CH_n6 {c : Nat} (h : CH c) : (shp 0 (c + 8)).2 = 10 := (CH_a h 6 (by decide)).2.1
theorem CH_f6 {c : Nat} (h : CH c) : rfs 0 (c + 1) 6 = c + 8 := (CH_a h 6 (by decide)).2.2
theorem CH_a7 {c : Nat} (h : CH c) : (c + 9 < nC 0 ∧ (shp 0 (c + 9)).1 = 100) = True := (CH_a h 7 (by decide)).1
theorem CH_n7 {c : Nat} (h : CH c) : (shp 0 (c + 9)).2 = 10 := (CH_a h 7 (by decide)).2.1
theorem CH_f7 {c : Nat} (h : CH c) : rfs 0 (c + 1) 7 = c + 9 := (CH_a h 7 (by decide)).2.2
theorem CH_a8 {c : Nat} (h : CH c) : (c + 10 < nC 0 ∧ (shp 0 (c + 10)).1 = 100) = True := (CH_a h 8 (by decide)).1
theorem CH_n8 {c : Nat} (h : CH c) : (shp 0 (c + 10)).2 = 10 := (CH_a h 8 (by decide)).2.1
theorem CH_f8 {c : Nat} (h : CH c) : rfs 0 (c + 1) 8 = c + 10 := (CH_a h 8 (by decide)).2.2
theorem CH_a9 {c : Nat} (h : CH c) : (c + 11 < nC 0 ∧ (shp 0 (c + 11)).1 = 100) = True := (CH_a h 9 (by decide)).1
theorem CH_n9 {c : Nat} (h : CH c) : (shp 0 (c + 11)).2 = 10 := (CH_a h 9 (by decide)).2.1
theorem CH_f9 {c : Nat} (h : CH c) : rfs 0 (c + 1) 9 = c + 11 := (CH_a h 9 (by decide)).2.2
theorem CH_ru {c : Nat} (h : CH c) : (c + 12 < nC 0 ∧ (shp 0 (c + 12)).1 = 100) = True := by rcases h with rfl | rfl | rfl <;> exact eq_true ⟨by decide, rfl⟩
theorem CH_run {c : Nat} (h : CH c) : (shp 0 (c + 12)).2 = 5 := by rcases h with rfl | rfl | rfl <;> rfl
theorem CH_sp {c : Nat} (h : CH c) : (c + 13 < nC 0 ∧ (shp 0 (c + 13)).1 = 100) = True := by rcases h with rfl | rfl | rfl <;> exact eq_true ⟨by decide, rfl⟩
theorem CH_spn {c : Nat} (h : CH c) : (shp 0 (c + 13)).2 = 10 := by rcases h with rfl | rfl | rfl <;> rfl
theorem CH_r0 {c : Nat} (h : CH c) : rfs 0 c 0 = c + 1 := by rcases h with rfl | rfl | rfl <;> rfl
theorem CH_r1 {c : Nat} (h : CH c) : rfs 0 c 1 = c + 12 := by rcases h with rfl | rfl | rfl <;> rfl
theorem CH_r2 {c : Nat} (h : CH c) : rfs 0 c 2 = c + 13 := by rcases h with rfl | rfl | rfl <;> rfl
theorem CH_lt {c : Nat} (h : CH c) : c < 30 := by rcases h with rfl | rfl | rfl <;> decide
def SH (c : Nat) : Prop := c = 54 ∨ c = 56 ∨ c = 58 ∨ c = 60
theorem SH_k {c : Nat} (h : SH c) : (c < nC 0 ∧ (shp 0 c).1 = 1) = True := by rcases h with rfl | rfl | rfl | rfl <;> exact eq_true ⟨by decide, rfl⟩
theorem SH_a {c : Nat} (h : SH c) : (c + 1 < nC 0 ∧ (shp 0 (c + 1)).1 = 100) = True := by rcases h with rfl | rfl | rfl | rfl <;> exact eq_true ⟨by decide, rfl⟩
theorem SH_n {c : Nat} (h : SH c) : (shp 0 (c + 1)).2 = 40 := by rcases h with rfl | rfl | rfl | rfl <;> rfl
theorem SH_r {c : Nat} (h : SH c) : rfs 0 c 0 = c + 1 := by rcases h with rfl | rfl | rfl | rfl <;> rfl
theorem SH_of {j : Nat} (h : j < 4) : SH (rfs 0 53 j) ∧ rfs 0 53 j = 54 + 2 * j := by
  have : j = 0 ∨ j = 1 ∨ j = 2 ∨ j = 3 := by omega
  rcases this with rfl | rfl | rfl | rfl
  · exact ⟨Or.inl rfl, rfl⟩
  · exact ⟨Or.inr (Or.inl rfl), rfl⟩
  · exact ⟨Or.inr (Or.inr (Or.inl rfl)), rfl⟩
  · exact ⟨Or.inr (Or.inr (Or.inr rfl)), rfl⟩
theorem tn0 : (0 : Int32).toNatClampNeg = 0 := rfl
theorem tn1 : (1 : Int32).toNatClampNeg = 1 := rfl
theorem tn2 : (2 : Int32).toNatClampNeg = 2 := rfl
theorem tn3 : (3 : Int32).toNatClampNeg = 3 := rfl
theorem tn4 : (4 : Int32).toNatClampNeg = 4 := rfl
theorem tn5 : (5 : Int32).toNatClampNeg = 5 := rfl
theorem tn6 : (6 : Int32).toNatClampNeg = 6 := rfl
theorem tn7 : (7 : Int32).toNatClampNeg = 7 := rfl
theorem tn8 : (8 : Int32).toNatClampNeg = 8 := rfl
theorem tn9 : (9 : Int32).toNatClampNeg = 9 := rfl
theorem tn10 : (10 : Int32).toNatClampNeg = 10 := rfl
theorem tn11 : (11 : Int32).toNatClampNeg = 11 := rfl
theorem tn12 : (12 : Int32).toNatClampNeg = 12 := rfl
theorem tn110 : (110 : Int32).toNatClampNeg = 110 := rfl
theorem vi0_5 : vp_in (0 : Int32) 5 = True := eq_true (by intro h; rcases h with h | h; exact absurd h (by decide); exact absurd h (by decide))
theorem vi1_5 : vp_in (1 : Int32) 5 = True := eq_true (by intro h; rcases h with h | h; exact absurd h (by decide); exact absurd h (by decide))
theorem vi2_5 : vp_in (2 : Int32) 5 = True := eq_true (by intro h; rcases h with h | h; exact absurd h (by decide); exact absurd h (by decide))
theorem vi3_5 : vp_in (3 : Int32) 5 = True := eq_true (by intro h; rcases h with h | h; exact absurd h (by decide); exact absurd h (by decide))
theorem vi4_5 : vp_in (4 : Int32) 5 = True := eq_true (by intro h; rcases h with h | h; exact absurd h (by decide); exact absurd h (by decide))
theorem vi0_6 : vp_in (0 : Int32) 6 = True := eq_true (by intro h; rcases h with h | h; exact absurd h (by decide); exact absurd h (by decide))
theorem vi1_6 : vp_in (1 : Int32) 6 = True := eq_true (by intro h; rcases h with h | h; exact absurd h (by decide); exact absurd h (by decide))
theorem vi2_6 : vp_in (2 : Int32) 6 = True := eq_true (by intro h; rcases h with h | h; exact absurd h (by decide); exact absurd h (by decide))
theorem vi3_6 : vp_in (3 : Int32) 6 = True := eq_true (by intro h; rcases h with h | h; exact absurd h (by decide); exact absurd h (by decide))
theorem vi4_6 : vp_in (4 : Int32) 6 = True := eq_true (by intro h; rcases h with h | h; exact absurd h (by decide); exact absurd h (by decide))
theorem vi5_6 : vp_in (5 : Int32) 6 = True := eq_true (by intro h; rcases h with h | h; exact absurd h (by decide); exact absurd h (by decide))
theorem vi0_10 : vp_in (0 : Int32) 10 = True := eq_true (by intro h; rcases h with h | h; exact absurd h (by decide); exact absurd h (by decide))
theorem vi1_10 : vp_in (1 : Int32) 10 = True := eq_true (by intro h; rcases h with h | h; exact absurd h (by decide); exact absurd h (by decide))
theorem vi2_10 : vp_in (2 : Int32) 10 = True := eq_true (by intro h; rcases h with h | h; exact absurd h (by decide); exact absurd h (by decide))
theorem vi3_10 : vp_in (3 : Int32) 10 = True := eq_true (by intro h; rcases h with h | h; exact absurd h (by decide); exact absurd h (by decide))
theorem vi4_10 : vp_in (4 : Int32) 10 = True := eq_true (by intro h; rcases h with h | h; exact absurd h (by decide); exact absurd h (by decide))
theorem vi5_10 : vp_in (5 : Int32) 10 = True := eq_true (by intro h; rcases h with h | h; exact absurd h (by decide); exact absurd h (by decide))
theorem vi6_10 : vp_in (6 : Int32) 10 = True := eq_true (by intro h; rcases h with h | h; exact absurd h (by decide); exact absurd h (by decide))
theorem vi7_10 : vp_in (7 : Int32) 10 = True := eq_true (by intro h; rcases h with h | h; exact absurd h (by decide); exact absurd h (by decide))
theorem vi8_10 : vp_in (8 : Int32) 10 = True := eq_true (by intro h; rcases h with h | h; exact absurd h (by decide); exact absurd h (by decide))
theorem vi9_10 : vp_in (9 : Int32) 10 = True := eq_true (by intro h; rcases h with h | h; exact absurd h (by decide); exact absurd h (by decide))
theorem vi0_120 : vp_in (0 : Int32) 120 = True := eq_true (by intro h; rcases h with h | h; exact absurd h (by decide); exact absurd h (by decide))
theorem vi1_120 : vp_in (1 : Int32) 120 = True := eq_true (by intro h; rcases h with h | h; exact absurd h (by decide); exact absurd h (by decide))
theorem vi2_120 : vp_in (2 : Int32) 120 = True := eq_true (by intro h; rcases h with h | h; exact absurd h (by decide); exact absurd h (by decide))
theorem vi3_120 : vp_in (3 : Int32) 120 = True := eq_true (by intro h; rcases h with h | h; exact absurd h (by decide); exact absurd h (by decide))
theorem vi4_120 : vp_in (4 : Int32) 120 = True := eq_true (by intro h; rcases h with h | h; exact absurd h (by decide); exact absurd h (by decide))
theorem vi5_120 : vp_in (5 : Int32) 120 = True := eq_true (by intro h; rcases h with h | h; exact absurd h (by decide); exact absurd h (by decide))
theorem vi6_120 : vp_in (6 : Int32) 120 = True := eq_true (by intro h; rcases h with h | h; exact absurd h (by decide); exact absurd h (by decide))
theorem vi7_120 : vp_in (7 : Int32) 120 = True := eq_true (by intro h; rcases h with h | h; exact absurd h (by decide); exact absurd h (by decide))
theorem vi8_120 : vp_in (8 : Int32) 120 = True := eq_true (by intro h; rcases h with h | h; exact absurd h (by decide); exact absurd h (by decide))
theorem vi9_120 : vp_in (9 : Int32) 120 = True := eq_true (by intro h; rcases h with h | h; exact absurd h (by decide); exact absurd h (by decide))
theorem vi10_120 : vp_in (10 : Int32) 120 = True := eq_true (by intro h; rcases h with h | h; exact absurd h (by decide); exact absurd h (by decide))
theorem vi11_120 : vp_in (11 : Int32) 120 = True := eq_true (by intro h; rcases h with h | h; exact absurd h (by decide); exact absurd h (by decide))
theorem vi12_120 : vp_in (12 : Int32) 120 = True := eq_true (by intro h; rcases h with h | h; exact absurd h (by decide); exact absurd h (by decide))
theorem rc6 : rcv 1 6 0 := Or.inl ⟨by decide, rfl, by decide⟩
theorem rc5 : rcv 0 5 0 := Or.inl ⟨by decide, rfl, by decide⟩
theorem rc4 : rcv 0 4 43 := Or.inl ⟨by decide, rfl, by decide⟩
theorem rc2 : rcv 0 2 50 := Or.inl ⟨by decide, rfl, by decide⟩
theorem rc3 : rcv 0 3 51 := Or.inl ⟨by decide, rfl, by decide⟩
theorem rcC {c : Nat} (h : CH c) : rcv 0 0 c := Or.inl ⟨(of_eq_true (CH_k h)).1, (of_eq_true (CH_k h)).2, by decide⟩
theorem rcH {c : Nat} (h : SH c) : rcv 0 1 c := Or.inl ⟨(of_eq_true (SH_k h)).1, (of_eq_true (SH_k h)).2, by decide⟩
theorem si1 {σ : St2} {k j : Nat} {v : Int32} : (si σ k j v).1 k = upd (σ.1 k) j v := upr_eq
theorem si1n {σ : St2} {k i j : Nat} {v : Int32} (h : i ≠ k) : (si σ k j v).1 i = σ.1 i := upr_ne h
theorem si2 {σ : St2} {k j : Nat} {v : Int32} : (si σ k j v).2 = σ.2 := rfl
theorem sr1 {σ : St2} {k : Nat} {r : Nat → Int32} : (sr σ k r).1 k = r := upr_eq
theorem sr1n {σ : St2} {k i : Nat} {r : Nat → Int32} (h : i ≠ k) : (sr σ k r).1 i = σ.1 i := upr_ne h
theorem sl1 {σ : St2} {k j : Nat} {v : Int64} : (sl σ k j v).1 = σ.1 := rfl
theorem updS {f : Nat → Int32} {k : Nat} {x : Int32} : upd f k x k = x := if_pos rfl
theorem updN {f : Nat → Int32} {k j : Nat} {x : Int32} (h : j ≠ k) : upd f k x j = f j := if_neg h
