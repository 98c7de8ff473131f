/-! what holds of the tables that nobody writes, out of what the Statement gives -/
def Gv : Cond := Jvm.Cond.and given_1 narrow_1
theorem ev_i {args : Array Value} {s : State} {t : Term} {z : Int32} (h : (Cond.eq t (.int z)).before args s = true) : t.eval args s none [] s = some (.int z) := by
  cases hv : t.eval args s none [] s with
  | none => simp [Cond.before, Cond.holds, Cond.value, hv] at h
  | some w =>
    have hz : (Term.int z).eval args s none [] s = some (.int z) := rfl
    simp only [Cond.before, Cond.holds, Cond.value, hv, hz] at h
    cases w <;> simp_all
def tmA (k : Nat) : Term := .static RX0 (stN k) "[I"
def tmS (i : Nat) : Term := .string RX3 (strL.getD i (0, "")).1
def lenS : List Nat := strB.map List.length
theorem at_pl {L : List Cond} {w : Cond} (i : Nat) (h : L[i]? = some w) : w ∈ L := List.mem_of_getElem? h
theorem g_arr : ∀ i : Nat, i < 6 → Cond.arrayOf (tmA (200 + i)) .int ∈ flatC Gv := fun i hi => at_pl ([39, 26, 13, 52, 5, 65].getD i 0) ((by decide +kernel : ∀ i : Nat, i < 6 → (flatC Gv)[[39, 26, 13, 52, 5, 65].getD i 0]? = some (Cond.arrayOf (tmA (200 + i)) .int)) i hi)
theorem g_len : ∀ i : Nat, i < 6 → Cond.eq (.length (tmA (200 + i))) (.int (Int32.ofNat (shp 0 (200 + i)).2)) ∈ flatC Gv := fun i hi => at_pl ([40, 27, 14, 53, 6, 66].getD i 0) ((by decide +kernel : ∀ i : Nat, i < 6 → (flatC Gv)[[40, 27, 14, 53, 6, 66].getD i 0]? = some (Cond.eq (.length (tmA (200 + i))) (.int (Int32.ofNat (shp 0 (200 + i)).2)))) i hi)
def plA : List (List Nat) := [[41, 42, 43, 44, 45, 46, 47, 48, 49, 50], [28, 29, 30, 31, 32, 33, 34, 35, 36, 37], [15, 16, 17, 18, 19, 20, 21, 22, 23, 24], [54, 55, 56, 57, 58], [7, 8, 9, 10, 11], [67, 68, 69, 70, 71, 72, 73]]
theorem g_el : ∀ i : Nat, i < 6 → ∀ j : Nat, j < (shp 0 (200 + i)).2 → Cond.eq (.elem (tmA (200 + i)) (.int (Int32.ofNat j))) (.int (cst (200 + i) j)) ∈ flatC Gv := fun i hi j hj => at_pl ((plA.getD i []).getD j 0) ((by decide +kernel : ∀ i : Nat, i < 6 → ∀ j : Nat, j < (shp 0 (200 + i)).2 → (flatC Gv)[(plA.getD i []).getD j 0]? = some (Cond.eq (.elem (tmA (200 + i)) (.int (Int32.ofNat j))) (.int (cst (200 + i) j)))) i hi j hj)
theorem g_lay : ∀ i : Nat, i < 6 → Cond.laysStatic RX0 (stN (200 + i)) "[I" ∈ lw_tbl := fun i hi => at_pl ([349, 347, 287, 366, 93, 929].getD i 0) ((by decide +kernel : ∀ i : Nat, i < 6 → lw_tbl[[349, 347, 287, 366, 93, 929].getD i 0]? = some (Cond.laysStatic RX0 (stN (200 + i)) "[I")) i hi)
theorem g_ini : Cond.initialized RX0 ∈ lw_tbl := at_pl 62 (by decide +kernel)
theorem g_n31 : ∀ i : Nat, i < 6 → (shp 0 (200 + i)).2 < 2 ^ 31 := by decide +kernel
theorem g_ex : ∀ i : Nat, i < 16 → Cond.exactly (tmS i) "java/lang/String" ∈ flatC Gv := fun i hi => at_pl ([74, 82, 92, 101, 114, 126, 139, 263, 285, 308, 153, 168, 185, 203, 222, 242].getD i 0) ((by decide +kernel : ∀ i : Nat, i < 16 → (flatC Gv)[[74, 82, 92, 101, 114, 126, 139, 263, 285, 308, 153, 168, 185, 203, 222, 242].getD i 0]? = some (Cond.exactly (tmS i) "java/lang/String")) i hi)
theorem g_co : ∀ i : Nat, i < 16 → Cond.eq (.field (tmS i) "java/lang/String" "coder" "B") (.int 0) ∈ flatC Gv := fun i hi => at_pl ([75, 83, 93, 102, 115, 127, 140, 264, 286, 309, 154, 169, 186, 204, 223, 243].getD i 0) ((by decide +kernel : ∀ i : Nat, i < 16 → (flatC Gv)[[75, 83, 93, 102, 115, 127, 140, 264, 286, 309, 154, 169, 186, 204, 223, 243].getD i 0]? = some (Cond.eq (.field (tmS i) "java/lang/String" "coder" "B") (.int 0))) i hi)
theorem g_va : ∀ i : Nat, i < 16 → Cond.arrayOf (.field (tmS i) "java/lang/String" "value" "[B") .byte ∈ flatC Gv := fun i hi => at_pl ([76, 84, 94, 103, 116, 128, 141, 265, 287, 310, 155, 170, 187, 205, 224, 244].getD i 0) ((by decide +kernel : ∀ i : Nat, i < 16 → (flatC Gv)[[76, 84, 94, 103, 116, 128, 141, 265, 287, 310, 155, 170, 187, 205, 224, 244].getD i 0]? = some (Cond.arrayOf (.field (tmS i) "java/lang/String" "value" "[B") .byte)) i hi)
theorem g_vl : ∀ i : Nat, i < 16 → Cond.eq (.length (.field (tmS i) "java/lang/String" "value" "[B")) (.int (Int32.ofNat (lenS.getD i 0))) ∈ flatC Gv := fun i hi => at_pl ([77, 85, 95, 104, 117, 129, 142, 266, 288, 311, 156, 171, 188, 206, 225, 245].getD i 0) ((by decide +kernel : ∀ i : Nat, i < 16 → (flatC Gv)[[77, 85, 95, 104, 117, 129, 142, 266, 288, 311, 156, 171, 188, 206, 225, 245].getD i 0]? = some (Cond.eq (.length (.field (tmS i) "java/lang/String" "value" "[B")) (.int (Int32.ofNat (lenS.getD i 0))))) i hi)
def plS : List (List Nat) := [[78, 79, 80, 81], [86, 87, 88, 89, 90], [96, 97, 98], [105, 106, 107, 108, 109, 110], [118, 119, 120, 121], [130, 131, 132, 133], [143, 144, 145, 146], [267, 268, 269, 270, 271], [289, 290, 291, 292, 293], [312, 313, 314, 315], [157, 158, 159, 160], [172, 173, 174, 175, 176], [189, 190, 191, 192, 193], [207, 208, 209, 210, 211], [226, 227, 228, 229, 230], [246, 247, 248, 249, 250]]
theorem g_ve : ∀ i : Nat, i < 16 → ∀ j : Nat, j < lenS.getD i 0 → Cond.eq (.elem (.field (tmS i) "java/lang/String" "value" "[B") (.int (Int32.ofNat j))) (.int ((strB.getD i []).getD j 0)) ∈ flatC Gv := fun i hi j hj => at_pl ((plS.getD i []).getD j 0) ((by decide +kernel : ∀ i : Nat, i < 16 → ∀ j : Nat, j < lenS.getD i 0 → (flatC Gv)[(plS.getD i []).getD j 0]? = some (Cond.eq (.elem (.field (tmS i) "java/lang/String" "value" "[B") (.int (Int32.ofNat j))) (.int ((strB.getD i []).getD j 0)))) i hi j hj)
theorem g_s31 : ∀ i : Nat, i < 16 → lenS.getD i 0 < 2 ^ 31 := by decide +kernel
theorem g_sr : ∀ i : Nat, i < 16 → Cond.stringRef RX3 (strL.getD i (0, "")).1 (strL.getD i (0, "")).2 ∈ lw_tbl := fun i hi => at_pl ([812, 813, 814, 815, 816, 817, 818, 894, 895, 896, 880, 881, 882, 883, 884, 885].getD i 0) ((by decide +kernel : ∀ i : Nat, i < 16 → lw_tbl[[812, 813, 814, 815, 816, 817, 818, 894, 895, 896, 880, 881, 882, 883, 884, 885].getD i 0]? = some (Cond.stringRef RX3 (strL.getD i (0, "")).1 (strL.getD i (0, "")).2)) i hi)
theorem g_cs : Cond.eq (.static "java/lang/String" "COMPACT_STRINGS" "Z") (.int 1) ∈ flatC Gv ∧ Cond.laysStatic "java/lang/String" "COMPACT_STRINGS" "Z" ∈ lw_tbl ∧ Cond.initialized "java/lang/String" ∈ lw_tbl := ⟨at_pl 59 (by decide +kernel), at_pl 832 (by decide +kernel), at_pl 72 (by decide +kernel)⟩
theorem g_si : Cond.isRef (.static "jdk/internal/util/Preconditions" "SIOOBE_FORMATTER" sioD) ∈ flatC Gv ∧ Cond.laysStatic "jdk/internal/util/Preconditions" "SIOOBE_FORMATTER" sioD ∈ lw_tbl ∧ Cond.initialized "jdk/internal/util/Preconditions" ∈ lw_tbl := ⟨at_pl 60 (by decide +kernel), at_pl 848 (by decide +kernel), at_pl 74 (by decide +kernel)⟩
def rkS (i : Nat) : Nat := [0, 1, 2, 3, 4, 5, 6, 13, 14, 15, 7, 8, 9, 10, 11, 12].getD i 0
def plN : List (List Nat) := [[0, 91, 99, 111, 122, 134, 147, 272, 294, 316, 161, 177, 194, 212, 231, 251], [91, 0, 100, 112, 123, 135, 148, 273, 295, 317, 162, 178, 195, 213, 232, 252], [99, 100, 0, 113, 124, 136, 149, 274, 296, 318, 163, 179, 196, 214, 233, 253], [111, 112, 113, 0, 125, 137, 150, 275, 297, 319, 164, 180, 197, 215, 234, 254], [122, 123, 124, 125, 0, 138, 151, 276, 298, 320, 165, 181, 198, 216, 235, 255], [134, 135, 136, 137, 138, 0, 152, 277, 299, 321, 166, 182, 199, 217, 236, 256], [147, 148, 149, 150, 151, 152, 0, 278, 300, 322, 167, 183, 200, 218, 237, 257], [272, 273, 274, 275, 276, 277, 278, 0, 307, 329, 279, 280, 281, 282, 283, 284], [294, 295, 296, 297, 298, 299, 300, 307, 0, 330, 301, 302, 303, 304, 305, 306], [316, 317, 318, 319, 320, 321, 322, 329, 330, 0, 323, 324, 325, 326, 327, 328], [161, 162, 163, 164, 165, 166, 167, 279, 301, 323, 0, 184, 201, 219, 238, 258], [177, 178, 179, 180, 181, 182, 183, 280, 302, 324, 184, 0, 202, 220, 239, 259], [194, 195, 196, 197, 198, 199, 200, 281, 303, 325, 201, 202, 0, 221, 240, 260], [212, 213, 214, 215, 216, 217, 218, 282, 304, 326, 219, 220, 221, 0, 241, 261], [231, 232, 233, 234, 235, 236, 237, 283, 305, 327, 238, 239, 240, 241, 0, 262], [251, 252, 253, 254, 255, 256, 257, 284, 306, 328, 258, 259, 260, 261, 262, 0]]
theorem g_ne : ∀ i : Nat, i < 16 → ∀ j : Nat, j < 16 → i ≠ j → Cond.not (Cond.eq (tmS i) (tmS j)) ∈ flatC Gv ∨ Cond.not (Cond.eq (tmS j) (tmS i)) ∈ flatC Gv := fun i hi j hj hij => by
  have h := (by decide +kernel : ∀ i : Nat, i < 16 → ∀ j : Nat, j < 16 → i ≠ j → (flatC Gv)[(plN.getD i []).getD j 0]? = some (if rkS i < rkS j then Cond.not (Cond.eq (tmS i) (tmS j)) else Cond.not (Cond.eq (tmS j) (tmS i)))) i hi j hj hij
  by_cases z : rkS i < rkS j
  · rw [if_pos z] at h
    exact Or.inl (at_pl _ h)
  · rw [if_neg z] at h
    exact Or.inr (at_pl _ h)
section ST
variable {args : Array Value} {s : State} {A : Nat → Prop}
theorem st_A (hs : ∀ w ∈ flatC Gv, w.before args s = true) (ht : ∀ w ∈ lw_tbl, w.before args s = true) (hA : ∀ a : Nat, a < s.heap.size → ¬ A a) (i : Nat) (hi : i < 6) : ∃ t : Nat, va_Z RX0 (stN (200 + i)) "[I" (.ref t) A s s.heap ∧ va_T .int t (shp 0 (200 + i)).2 (fun j => .int (cst (200 + i) j)) A s s.heap := by
  obtain ⟨t, e, hT⟩ := va_Tof (args := args) (s := s) (tm := tmA (200 + i)) (ty := .int) (N := (shp 0 (200 + i)).2) (f := fun j => .int (cst (200 + i) j)) (A := A) (g_n31 i hi) (hs _ (g_arr i hi)) (ev_i (hs _ (g_len i hi))) (fun j hj => ev_i (hs _ (g_el i hi j hj))) hA
  exact ⟨t, va_Zof (ht _ (g_lay i hi)) (ht _ g_ini) e hA, hT⟩
theorem st_S (hs : ∀ w ∈ flatC Gv, w.before args s = true) (ht : ∀ w ∈ lw_tbl, w.before args s = true) (hA : ∀ a : Nat, a < s.heap.size → ¬ A a) : ∃ adK adV : Nat → Nat, vk_S 16 lenS strB adK adV A s s.heap ∧ ∀ i : Nat, i < 16 → vk_R RX3 (strL.getD i (0, "")).1 (strL.getD i (0, "")).2 (adK i) s := by
  obtain ⟨adK, adV, hS, hev⟩ := vk_Sof (args := args) (s := s) (N := 16) (tm := tmS) (len := lenS) (byt := strB) (A := A) g_s31 (fun i hi => hs _ (g_ex i hi)) (fun i hi => hs _ (g_co i hi)) (fun i hi => hs _ (g_va i hi)) (fun i hi => hs _ (g_vl i hi)) (fun i hi j hj => hs _ (g_ve i hi j hj)) (fun i j hi hj hij => (g_ne i hi j hj hij).elim (fun z => Or.inl (hs _ z)) (fun z => Or.inr (hs _ z))) hA
  exact ⟨adK, adV, hS, fun i hi => vk_R.of (ht _ (g_sr i hi)) (hev i hi)⟩
theorem st_C (hs : ∀ w ∈ flatC Gv, w.before args s = true) (ht : ∀ w ∈ lw_tbl, w.before args s = true) (hA : ∀ a : Nat, a < s.heap.size → ¬ A a) : ExC A s s.heap := va_Zof (ht _ g_cs.2.1) (ht _ g_cs.2.2) (va_eqi (hs _ g_cs.1)) hA
theorem st_Q (hs : ∀ w ∈ flatC Gv, w.before args s = true) (ht : ∀ w ∈ lw_tbl, w.before args s = true) (hA : ∀ a : Nat, a < s.heap.size → ¬ A a) : va_Zq "jdk/internal/util/Preconditions" "SIOOBE_FORMATTER" sioD A s s.heap := va_Zqof (ht _ g_si.2.1) (ht _ g_si.2.2) (hs _ g_si.1) hA
/-- an address for each name -/
def adX (h : Nat) (tA adK adV : Nat → Nat) (tQ : Nat) : Nat → Nat := fun k =>
  if k < 63 then h + (if k < 54 then k else if k = 62 then 54 else k + 1) else if k < 206 then tA (k - 200) else if k < 316 then adK (k - 300) else if k < 416 then adV (k - 400) else tQ
theorem ex_all (hs : ∀ w ∈ flatC Gv, w.before args s = true) (ht : ∀ w ∈ lw_tbl, w.before args s = true) (D : va_G) (cA : Nat → ClassId) : ∃ (tA adK adV : Nat → Nat) (tQ : Nat), Ex 0 (adX s.heap.size tA adK adV tQ, D, cA) s s.heap ∧ (va_Z RX0 "FIRST_RULE" "[I" (.ref (tA 4)) (fun q => s.heap.size ≤ q) s s.heap ∧ va_T .int (tA 4) 5 (fun j => .int (cst 204 j)) (fun q => s.heap.size ≤ q) s s.heap) := by
  have hA : ∀ a : Nat, a < s.heap.size → ¬ (fun q : Nat => s.heap.size ≤ q) a := fun a ha => Nat.not_le.mpr ha
  have h1 : ∀ i : Nat, ∃ t : Nat, i < 6 → va_Z RX0 (stN (200 + i)) "[I" (.ref t) (fun q => s.heap.size ≤ q) s s.heap ∧ va_T .int t (shp 0 (200 + i)).2 (fun j => .int (cst (200 + i) j)) (fun q => s.heap.size ≤ q) s s.heap := fun i => by
    by_cases hi : i < 6
    · obtain ⟨t, z⟩ := st_A hs ht hA i hi
      exact ⟨t, fun _ => z⟩
    · exact ⟨0, fun z => absurd z hi⟩
  obtain ⟨tA, htA⟩ := Classical.axiomOfChoice h1
  obtain ⟨adK, adV, hS, hR⟩ := st_S hs ht hA
  have hC := st_C hs ht hA
  obtain ⟨tQ, hQ⟩ : ∃ tQ : Nat, va_Z "jdk/internal/util/Preconditions" "SIOOBE_FORMATTER" sioD .null (fun q => s.heap.size ≤ q) s s.heap ∨ va_Z "jdk/internal/util/Preconditions" "SIOOBE_FORMATTER" sioD (.ref tQ) (fun q => s.heap.size ≤ q) s s.heap := by
    rcases st_Q hs ht hA with z | ⟨t, z⟩
    · exact ⟨0, Or.inl z⟩
    · exact ⟨t, Or.inr z⟩
  refine ⟨tA, adK, adV, tQ, ?_, htA 4 (by decide)⟩
  have nar : ∀ q, Af 0 (adX s.heap.size tA adK adV tQ, D, cA) q → s.heap.size ≤ q := fun q ⟨k, hk, e⟩ => by
    have hk : k < 63 := hk
    rw [e]
    show s.heap.size ≤ adX _ _ _ _ _ k
    unfold adX
    rw [if_pos hk]
    exact Nat.le_add_right _ _
  intro _
  refine ⟨fun k k1 k2 => ?_, fun k k1 k2 q hq => ?_, hC.narrow nar, hQ.elim (fun z => Or.inl (z.narrow nar)) (fun z => Or.inr (z.narrow nar))⟩
  · obtain ⟨i, rfl⟩ : ∃ i, k = 200 + i := ⟨k - 200, by omega⟩
    have e : adX s.heap.size tA adK adV tQ (200 + i) = tA i := by
      unfold adX
      rw [if_neg (by omega), if_pos (by omega), Nat.add_sub_cancel_left]
    have := htA i (by omega)
    rw [← e] at this
    exact ⟨this.1.narrow nar, this.2.narrow nar⟩
  · obtain ⟨i, rfl⟩ : ∃ i, k = 300 + i := ⟨k - 300, by omega⟩
    have hi : i < 16 := by omega
    have e : adX s.heap.size tA adK adV tQ (300 + i) = adK i := by
      unfold adX
      rw [if_neg (by omega), if_neg (by omega), if_pos (by omega), Nat.add_sub_cancel_left]
    have e2 : adX s.heap.size tA adK adV tQ (300 + i + 100) = adV i := by
      unfold adX
      rw [if_neg (by omega), if_neg (by omega), if_neg (by omega), if_pos (by omega), show 300 + i + 100 - 400 = i by omega]
    rw [Nat.add_sub_cancel_left] at hq
    have eq : strL.getD i (0, "") = q := by rw [List.getD_eq_getElem?_getD, hq]; rfl
    have hr := hR i hi
    rw [eq, ← e] at hr
    obtain ⟨s1, s2, s3, s4⟩ := hS.1 i hi
    rw [← e] at s1 s2 s3
    rw [← e2] at s3 s4
    have hl : (shp 0 (300 + i + 100)).2 = lenS.getD i 0 := (by decide +kernel : ∀ i : Nat, i < 16 → (shp 0 (300 + i + 100)).2 = lenS.getD i 0) i hi
    have hc : (fun j => Value.int (cst (300 + i + 100) j)) = fun j => .int ((strB.getD i []).getD j 0) := by
      funext j
      unfold cst
      rw [if_neg (by omega), show 300 + i + 100 - 400 = i by omega]
    refine ⟨hr, s1.narrow nar, s2.narrow nar, s3.narrow nar, ?_⟩
    rw [hl, hc]
    exact s4.narrow nar
end ST
