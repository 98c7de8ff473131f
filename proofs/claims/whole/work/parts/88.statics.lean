/-! what holds of the tables that nobody writes, out of what the Statement gives -/
def Gv : Cond := Jvm.Cond.and given_1 narrow_1
theorem ev_i {args : Array Value} {s : State} {t : Term} {z : Int32} (h : (Cond.eq t (.int z)).before args s = true) : t.eval args s none [] s = some (.int z) := by
  cases hv : t.eval args s none [] s with
  | none => simp [Cond.before, Cond.holds, Cond.value, hv] at h
  | some w =>
    have hz : (Term.int z).eval args s none [] s = some (.int z) := rfl
    simp only [Cond.before, Cond.holds, Cond.value, hv, hz] at h
    cases w <;> simp_all
def tmA (k : Nat) : Term := .static RX0 (stN k) "[I"
def tmS (i : Nat) : Term := .string RX3 (strL.getD i (0, "")).1
def lenS : List Nat := strB.map List.length
theorem g_arr : ∀ i : Nat, i < 6 → Cond.arrayOf (tmA (200 + i)) .int ∈ flatC Gv := by decide +kernel
theorem g_len : ∀ i : Nat, i < 6 → Cond.eq (.length (tmA (200 + i))) (.int (Int32.ofNat (shp 0 (200 + i)).2)) ∈ flatC Gv := by decide +kernel
theorem g_el : ∀ i : Nat, i < 6 → ∀ j : Nat, j < (shp 0 (200 + i)).2 → Cond.eq (.elem (tmA (200 + i)) (.int (Int32.ofNat j))) (.int (cst (200 + i) j)) ∈ flatC Gv := by decide +kernel
theorem g_lay : ∀ i : Nat, i < 6 → Cond.laysStatic RX0 (stN (200 + i)) "[I" ∈ lw_tbl := by decide +kernel
theorem g_ini : Cond.initialized RX0 ∈ lw_tbl := by decide +kernel
theorem g_n31 : ∀ i : Nat, i < 6 → (shp 0 (200 + i)).2 < 2 ^ 31 := by decide +kernel
theorem g_ex : ∀ i : Nat, i < 16 → Cond.exactly (tmS i) "java/lang/String" ∈ flatC Gv := by decide +kernel
theorem g_co : ∀ i : Nat, i < 16 → Cond.eq (.field (tmS i) "java/lang/String" "coder" "B") (.int 0) ∈ flatC Gv := by decide +kernel
theorem g_va : ∀ i : Nat, i < 16 → Cond.arrayOf (.field (tmS i) "java/lang/String" "value" "[B") .byte ∈ flatC Gv := by decide +kernel
theorem g_vl : ∀ i : Nat, i < 16 → Cond.eq (.length (.field (tmS i) "java/lang/String" "value" "[B")) (.int (Int32.ofNat (lenS.getD i 0))) ∈ flatC Gv := by decide +kernel
theorem g_ve : ∀ i : Nat, i < 16 → ∀ j : Nat, j < lenS.getD i 0 → Cond.eq (.elem (.field (tmS i) "java/lang/String" "value" "[B") (.int (Int32.ofNat j))) (.int ((strB.getD i []).getD j 0)) ∈ flatC Gv := by decide +kernel
theorem g_s31 : ∀ i : Nat, i < 16 → lenS.getD i 0 < 2 ^ 31 := by decide +kernel
theorem g_sr : ∀ i : Nat, i < 16 → Cond.stringRef RX3 (strL.getD i (0, "")).1 (strL.getD i (0, "")).2 ∈ lw_tbl := by decide +kernel
theorem g_cs : Cond.eq (.static "java/lang/String" "COMPACT_STRINGS" "Z") (.int 1) ∈ flatC Gv ∧ Cond.laysStatic "java/lang/String" "COMPACT_STRINGS" "Z" ∈ lw_tbl ∧ Cond.initialized "java/lang/String" ∈ lw_tbl := by decide +kernel
theorem g_si : Cond.isRef (.static "jdk/internal/util/Preconditions" "SIOOBE_FORMATTER" sioD) ∈ flatC Gv ∧ Cond.laysStatic "jdk/internal/util/Preconditions" "SIOOBE_FORMATTER" sioD ∈ lw_tbl ∧ Cond.initialized "jdk/internal/util/Preconditions" ∈ lw_tbl := by decide +kernel
theorem g_ne : ∀ i : Nat, i < 16 → ∀ j : Nat, j < 16 → i ≠ j → Cond.not (Cond.eq (tmS i) (tmS j)) ∈ flatC Gv ∨ Cond.not (Cond.eq (tmS j) (tmS i)) ∈ flatC Gv := by decide +kernel
section ST
variable {args : Array Value} {s : State} {A : Nat → Prop}
theorem st_A (hs : ∀ w ∈ flatC Gv, w.before args s = true) (ht : ∀ w ∈ lw_tbl, w.before args s = true) (hA : ∀ a : Nat, a < s.heap.size → ¬ A a) (i : Nat) (hi : i < 6) : ∃ t : Nat, va_Z RX0 (stN (200 + i)) "[I" (.ref t) A s s.heap ∧ va_T .int t (shp 0 (200 + i)).2 (fun j => .int (cst (200 + i) j)) A s s.heap := by
  obtain ⟨t, e, hT⟩ := va_Tof (args := args) (s := s) (tm := tmA (200 + i)) (ty := .int) (N := (shp 0 (200 + i)).2) (f := fun j => .int (cst (200 + i) j)) (A := A) (g_n31 i hi) (hs _ (g_arr i hi)) (ev_i (hs _ (g_len i hi))) (fun j hj => ev_i (hs _ (g_el i hi j hj))) hA
  exact ⟨t, va_Zof (ht _ (g_lay i hi)) (ht _ g_ini) e hA, hT⟩
theorem st_S (hs : ∀ w ∈ flatC Gv, w.before args s = true) (ht : ∀ w ∈ lw_tbl, w.before args s = true) (hA : ∀ a : Nat, a < s.heap.size → ¬ A a) : ∃ adK adV : Nat → Nat, vk_S 16 lenS strB adK adV A s s.heap ∧ ∀ i : Nat, i < 16 → vk_R RX3 (strL.getD i (0, "")).1 (strL.getD i (0, "")).2 (adK i) s := by
  obtain ⟨adK, adV, hS, hev⟩ := vk_Sof (args := args) (s := s) (N := 16) (tm := tmS) (len := lenS) (byt := strB) (A := A) g_s31 (fun i hi => hs _ (g_ex i hi)) (fun i hi => hs _ (g_co i hi)) (fun i hi => hs _ (g_va i hi)) (fun i hi => hs _ (g_vl i hi)) (fun i hi j hj => hs _ (g_ve i hi j hj)) (fun i j hi hj hij => (g_ne i hi j hj hij).elim (fun z => Or.inl (hs _ z)) (fun z => Or.inr (hs _ z))) hA
  exact ⟨adK, adV, hS, fun i hi => vk_R.of (ht _ (g_sr i hi)) (hev i hi)⟩
theorem st_C (hs : ∀ w ∈ flatC Gv, w.before args s = true) (ht : ∀ w ∈ lw_tbl, w.before args s = true) (hA : ∀ a : Nat, a < s.heap.size → ¬ A a) : ExC A s s.heap := va_Zof (ht _ g_cs.2.1) (ht _ g_cs.2.2) (va_eqi (hs _ g_cs.1)) hA
theorem st_Q (hs : ∀ w ∈ flatC Gv, w.before args s = true) (ht : ∀ w ∈ lw_tbl, w.before args s = true) (hA : ∀ a : Nat, a < s.heap.size → ¬ A a) : va_Zq "jdk/internal/util/Preconditions" "SIOOBE_FORMATTER" sioD A s s.heap := va_Zqof (ht _ g_si.2.1) (ht _ g_si.2.2) (hs _ g_si.1) hA
/-- an address for each name -/
def adX (h : Nat) (tA adK adV : Nat → Nat) (tQ : Nat) : Nat → Nat := fun k =>
  if k < 63 then h + (if k < 54 then k else if k = 62 then 54 else k + 1) else if k < 206 then tA (k - 200) else if k < 316 then adK (k - 300) else if k < 416 then adV (k - 400) else tQ
theorem ex_all (hs : ∀ w ∈ flatC Gv, w.before args s = true) (ht : ∀ w ∈ lw_tbl, w.before args s = true) (D : va_G) (cA : Nat → ClassId) : ∃ (tA adK adV : Nat → Nat) (tQ : Nat), Ex 0 (adX s.heap.size tA adK adV tQ, D, cA) s s.heap ∧ (va_Z RX0 "FIRST_RULE" "[I" (.ref (tA 4)) (fun q => s.heap.size ≤ q) s s.heap ∧ va_T .int (tA 4) 5 (fun j => .int (cst 204 j)) (fun q => s.heap.size ≤ q) s s.heap) := by
  have hA : ∀ a : Nat, a < s.heap.size → ¬ (fun q : Nat => s.heap.size ≤ q) a := fun a ha => Nat.not_le.mpr ha
  have h1 : ∀ i : Nat, ∃ t : Nat, i < 6 → va_Z RX0 (stN (200 + i)) "[I" (.ref t) (fun q => s.heap.size ≤ q) s s.heap ∧ va_T .int t (shp 0 (200 + i)).2 (fun j => .int (cst (200 + i) j)) (fun q => s.heap.size ≤ q) s s.heap := fun i => by
    by_cases hi : i < 6
    · obtain ⟨t, z⟩ := st_A hs ht hA i hi
      exact ⟨t, fun _ => z⟩
    · exact ⟨0, fun z => absurd z hi⟩
  obtain ⟨tA, htA⟩ := Classical.axiomOfChoice h1
  obtain ⟨adK, adV, hS, hR⟩ := st_S hs ht hA
  have hC := st_C hs ht hA
  obtain ⟨tQ, hQ⟩ : ∃ tQ : Nat, va_Z "jdk/internal/util/Preconditions" "SIOOBE_FORMATTER" sioD .null (fun q => s.heap.size ≤ q) s s.heap ∨ va_Z "jdk/internal/util/Preconditions" "SIOOBE_FORMATTER" sioD (.ref tQ) (fun q => s.heap.size ≤ q) s s.heap := by
    rcases st_Q hs ht hA with z | ⟨t, z⟩
    · exact ⟨0, Or.inl z⟩
    · exact ⟨t, Or.inr z⟩
  refine ⟨tA, adK, adV, tQ, ?_, htA 4 (by decide)⟩
  have nar : ∀ q, Af 0 (adX s.heap.size tA adK adV tQ, D, cA) q → s.heap.size ≤ q := fun q ⟨k, hk, e⟩ => by
    have hk : k < 63 := hk
    rw [e]
    show s.heap.size ≤ adX _ _ _ _ _ k
    unfold adX
    rw [if_pos hk]
    exact Nat.le_add_right _ _
  intro _
  refine ⟨fun k k1 k2 => ?_, fun k k1 k2 q hq => ?_, hC.narrow nar, hQ.elim (fun z => Or.inl (z.narrow nar)) (fun z => Or.inr (z.narrow nar))⟩
  · obtain ⟨i, rfl⟩ : ∃ i, k = 200 + i := ⟨k - 200, by omega⟩
    have e : adX s.heap.size tA adK adV tQ (200 + i) = tA i := by
      unfold adX
      rw [if_neg (by omega), if_pos (by omega), Nat.add_sub_cancel_left]
    have := htA i (by omega)
    rw [← e] at this
    exact ⟨this.1.narrow nar, this.2.narrow nar⟩
  · obtain ⟨i, rfl⟩ : ∃ i, k = 300 + i := ⟨k - 300, by omega⟩
    have hi : i < 16 := by omega
    have e : adX s.heap.size tA adK adV tQ (300 + i) = adK i := by
      unfold adX
      rw [if_neg (by omega), if_neg (by omega), if_pos (by omega), Nat.add_sub_cancel_left]
    have e2 : adX s.heap.size tA adK adV tQ (300 + i + 100) = adV i := by
      unfold adX
      rw [if_neg (by omega), if_neg (by omega), if_neg (by omega), if_pos (by omega), show 300 + i + 100 - 400 = i by omega]
    rw [Nat.add_sub_cancel_left] at hq
    have eq : strL.getD i (0, "") = q := by rw [List.getD_eq_getElem?_getD, hq]; rfl
    have hr := hR i hi
    rw [eq, ← e] at hr
    obtain ⟨s1, s2, s3, s4⟩ := hS.1 i hi
    rw [← e] at s1 s2 s3
    rw [← e2] at s3 s4
    have hl : (shp 0 (300 + i + 100)).2 = lenS.getD i 0 := (by decide +kernel : ∀ i : Nat, i < 16 → (shp 0 (300 + i + 100)).2 = lenS.getD i 0) i hi
    have hc : (fun j => Value.int (cst (300 + i + 100) j)) = fun j => .int ((strB.getD i []).getD j 0) := by
      funext j
      unfold cst
      rw [if_neg (by omega), show 300 + i + 100 - 400 = i by omega]
    refine ⟨hr, s1.narrow nar, s2.narrow nar, s3.narrow nar, ?_⟩
    rw [hl, hc]
    exact s4.narrow nar
end ST
