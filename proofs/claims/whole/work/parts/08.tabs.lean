/-! the tables' words that the calculus leans on -/
def tyG (c : Nat) : Nat → FieldType := match c with
  | 0 => tyX0 | 1 => tyX1 | 2 => tyX2 | 3 => tyX3 | 4 => tyX4 | 5 => tyX5 | _ => tyX6
def clG (c : Nat) : vw_C := match c with
  | 0 => (RX0, TX0, 8) | 1 => (RX1, TX1, 3) | 2 => (RX2, TX2, 4) | 3 => (RX3, TX3, 6) | 4 => (RX4, TX4, 12) | 5 => (RX5, TX5, 9) | _ => (RX6, TX6, 24)
theorem c7 {P : Nat → Prop} (h0 : P 0) (h1 : P 1) (h2 : P 2) (h3 : P 3) (h4 : P 4) (h5 : P 5) (h6 : P 6) : ∀ c, c < 7 → P c := by
  intro c hc
  match c, hc with
  | 0, _ => exact h0
  | 1, _ => exact h1
  | 2, _ => exact h2
  | 3, _ => exact h3
  | 4, _ => exact h4
  | 5, _ => exact h5
  | 6, _ => exact h6
  | n + 7, h => omega
theorem clG_at : ∀ c, c < 7 → cls7[c]? = some (clG c) ∧ (clG c).2.2 = cN c ∧ (clG c).1 = ocN c := c7 ⟨rfl, rfl, rfl⟩ ⟨rfl, rfl, rfl⟩ ⟨rfl, rfl, rfl⟩ ⟨rfl, rfl, rfl⟩ ⟨rfl, rfl, rfl⟩ ⟨rfl, rfl, rfl⟩ ⟨rfl, rfl, rfl⟩
theorem tyG_ok : ∀ c, c < 7 → ∀ k, k < (clG c).2.2 → parseFieldDescriptor ((clG c).2.1 k).2.2.1 = some (tyG c k) := c7 tyX0_ok tyX1_ok tyX2_ok tyX3_ok tyX4_ok tyX5_ok tyX6_ok
theorem nmG : ∀ c, c < 7 → ∀ a, a < (clG c).2.2 → ∀ b, b < (clG c).2.2 → a ≠ b → ((clG c).2.1 a).2.1 ≠ ((clG c).2.1 b).2.1 := c7 nmX0 nmX1 nmX2 nmX3 nmX4 nmX5 nmX6
theorem fkG : ∀ c, c < 7 → ∀ j, j < cN c → ((fkT c j = 0 → tyG c j = .int ∧ ((clG c).2.1 j).2.2.2 = false) ∧ (fkT c j = 1 → tyG c j = .boolean ∧ ((clG c).2.1 j).2.2.2 = false) ∧ (fkT c j = 2 → tyG c j = .long ∧ ((clG c).2.1 j).2.2.2 = false) ∧ ((clG c).2.1 j).1 = (clG c).1) := by decide +kernel
theorem inG0 : ([0, 1, 2, 3, 4, 5, 6].all (fun c => (u_ws (clG c).1 (clG c).2.1 (clG c).2.2).all (fun w => decide (w ∈ lw_tbl) && goodWord w))) = true := by decide +kernel
theorem lwG_in {w : Cond} (h1 : w ∈ lw_tbl) (h2 : goodWord w = true) : w ∈ lwG := List.mem_filter.mpr ⟨h1, h2⟩
theorem lwG_at {w : Cond} (i : Nat) (h : (lw_tbl[i]? == some w && goodWord w) = true) : w ∈ lwG := by
  simp only [Bool.and_eq_true, beq_iff_eq] at h
  exact lwG_in (List.mem_of_getElem? h.1) h.2
theorem lwG_good : ∀ w ∈ lwG, (w.onTables && w.keeps) = true ∨ ∃ ty, w = .arrayClass ty := fun _ h => good_of_word (List.mem_filter.mp h).2
theorem inG : ∀ c, c < 7 → ∀ w ∈ u_ws (clG c).1 (clG c).2.1 (clG c).2.2, w ∈ lwG := by
  intro c hc w hw
  have hm : c ∈ [0, 1, 2, 3, 4, 5, 6] := by
    have : c = 0 ∨ c = 1 ∨ c = 2 ∨ c = 3 ∨ c = 4 ∨ c = 5 ∨ c = 6 := by omega
    simpa using this
  have h := List.all_eq_true.mp inG0 c hm
  have h2 := List.all_eq_true.mp h w hw
  simp only [Bool.and_eq_true, decide_eq_true_eq] at h2
  exact lwG_in h2.1 h2.2
theorem ftab_all : (ftab.all (fun e => decide (e.2.2.1 < 7) && decide (e.2.2.2.1 < cN e.2.2.1) && (lw_tbl[e.2.2.2.2]? == some (.fieldLink (ocN e.1) e.2.1 ((clG e.2.2.1).2.1 e.2.2.2.1).1 ((clG e.2.2.1).2.1 e.2.2.2.1).2.1 ((clG e.2.2.1).2.1 e.2.2.2.1).2.2.1) && goodWord (.fieldLink (ocN e.1) e.2.1 ((clG e.2.2.1).2.1 e.2.2.2.1).1 ((clG e.2.2.1).2.1 e.2.2.2.1).2.1 ((clG e.2.2.1).2.1 e.2.2.2.1).2.2.1)))) = true := by decide +kernel
theorem ftab_use {μ i c j : Nat} (h : ftab.any (fun e => e.1 == mC μ && e.2.1 == i && e.2.2.1 == c && e.2.2.2.1 == j) = true) : c < 7 ∧ j < cN c ∧ Cond.fieldLink (ocN (mC μ)) i ((clG c).2.1 j).1 ((clG c).2.1 j).2.1 ((clG c).2.1 j).2.2.1 ∈ lwG := by
  obtain ⟨e, he, h1⟩ := List.any_eq_true.mp h
  have h2 := List.all_eq_true.mp ftab_all e he
  simp only [Bool.and_eq_true, beq_iff_eq, decide_eq_true_eq] at h1 h2
  obtain ⟨⟨⟨e1, e2⟩, e3⟩, e4⟩ := h1
  subst e2; subst e3; subst e4
  rw [← e1]
  exact ⟨h2.1.1, h2.1.2, lwG_in (List.mem_of_getElem? h2.2.1) h2.2.2⟩
theorem ctab_all : (ctab.all (fun e => lw_tbl[e.2.2.2]? == some (.constant (ocN e.1) e.2.1 e.2.2.1) && goodWord (.constant (ocN e.1) e.2.1 e.2.2.1))) = true := by decide +kernel
theorem ctab_use {μ i : Nat} {v : Int32} (h : ctab.any (fun e => e.1 == mC μ && e.2.1 == i && e.2.2.1 == v) = true) : Cond.constant (ocN (mC μ)) i v ∈ lwG := by
  obtain ⟨e, he, h1⟩ := List.any_eq_true.mp h
  have h2 := List.all_eq_true.mp ctab_all e he
  simp only [Bool.and_eq_true, beq_iff_eq] at h1 h2
  obtain ⟨⟨e1, e2⟩, e3⟩ := h1
  subst e2; subst e3
  rw [← e1]
  exact lwG_in (List.mem_of_getElem? h2.1) h2.2
theorem lctab_all : (lctab.all (fun e => lw_tbl[e.2.2.2]? == some (.constantLong (ocN e.1) e.2.1 (lN e.2.2.1)) && goodWord (.constantLong (ocN e.1) e.2.1 (lN e.2.2.1)))) = true := by decide +kernel
theorem lctab_use {μ i v : Nat} (h : lctab.any (fun e => e.1 == mC μ && e.2.1 == i && e.2.2.1 == v) = true) : Cond.constantLong (ocN (mC μ)) i (lN v) ∈ lwG := by
  obtain ⟨e, he, h1⟩ := List.any_eq_true.mp h
  have h2 := List.all_eq_true.mp lctab_all e he
  simp only [Bool.and_eq_true, beq_iff_eq] at h1 h2
  obtain ⟨⟨e1, e2⟩, e3⟩ := h1
  subst e2; subst e3
  rw [← e1]
  exact lwG_in (List.mem_of_getElem? h2.1) h2.2
theorem satab_all : (satab.all (fun e => decide (200 ≤ e.2.2.1) && decide (e.2.2.1 < 206) && (lw_tbl[e.2.2.2]? == some (.fieldLink (ocN e.1) e.2.1 RX0 (stN e.2.2.1) "[I") && goodWord (.fieldLink (ocN e.1) e.2.1 RX0 (stN e.2.2.1) "[I")))) = true := by decide +kernel
theorem satab_use {μ i k : Nat} (h : satab.any (fun e => e.1 == mC μ && e.2.1 == i && e.2.2.1 == k) = true) : 200 ≤ k ∧ k < 206 ∧ Cond.fieldLink (ocN (mC μ)) i RX0 (stN k) "[I" ∈ lwG := by
  obtain ⟨e, he, h1⟩ := List.any_eq_true.mp h
  have h2 := List.all_eq_true.mp satab_all e he
  simp only [Bool.and_eq_true, beq_iff_eq, decide_eq_true_eq] at h1 h2
  obtain ⟨⟨e1, e2⟩, e3⟩ := h1
  subst e2; subst e3
  rw [← e1]
  exact ⟨h2.1.1, h2.1.2, lwG_in (List.mem_of_getElem? h2.2.1) h2.2.2⟩
/-- JDK fields: 0 String.value, 1 String.coder, 2 COMPACT_STRINGS, 3 SIOOBE_FORMATTER -/
def stF (k : Nat) : String × String × String := if k = 0 then ("java/lang/String", "value", "[B") else if k = 1 then ("java/lang/String", "coder", "B") else if k = 2 then ("java/lang/String", "COMPACT_STRINGS", "Z") else ("jdk/internal/util/Preconditions", "SIOOBE_FORMATTER", sioD)
theorem sttab_all : (sttab.all (fun e => lw_tbl[e.2.2.2]? == some (.fieldLink (ocN e.1) e.2.1 (stF e.2.2.1).1 (stF e.2.2.1).2.1 (stF e.2.2.1).2.2) && goodWord (.fieldLink (ocN e.1) e.2.1 (stF e.2.2.1).1 (stF e.2.2.1).2.1 (stF e.2.2.1).2.2))) = true := by decide +kernel
theorem sttab_use {μ i k : Nat} (h : sttab.any (fun e => e.1 == mC μ && e.2.1 == i && e.2.2.1 == k) = true) : Cond.fieldLink (ocN (mC μ)) i (stF k).1 (stF k).2.1 (stF k).2.2 ∈ lwG := by
  obtain ⟨e, he, h1⟩ := List.any_eq_true.mp h
  have h2 := List.all_eq_true.mp sttab_all e he
  simp only [Bool.and_eq_true, beq_iff_eq] at h1 h2
  obtain ⟨⟨e1, e2⟩, e3⟩ := h1
  subst e2; subst e3
  rw [← e1]
  exact lwG_in (List.mem_of_getElem? h2.1) h2.2
def ntN (k : Nat) : MethodName := if k = 0 then Lib.Math.min.name else if k = 1 then Lib.Math.max.name else if k = 2 then Lib.MathLoose.max_long.x else arraycopyName
theorem ntab_all : (ntab.all (fun e => lw_tbl[e.2.2.2]? == some (.methodLink (ocN e.1) e.2.1 (ntN e.2.2.1)) && goodWord (.methodLink (ocN e.1) e.2.1 (ntN e.2.2.1)))) = true := by decide +kernel
theorem ntab_use {μ i k : Nat} (h : ntab.any (fun e => e.1 == mC μ && e.2.1 == i && e.2.2.1 == k) = true) : Cond.methodLink (ocN (mC μ)) i (ntN k) ∈ lwG := by
  obtain ⟨e, he, h1⟩ := List.any_eq_true.mp h
  have h2 := List.all_eq_true.mp ntab_all e he
  simp only [Bool.and_eq_true, beq_iff_eq] at h1 h2
  obtain ⟨⟨e1, e2⟩, e3⟩ := h1
  subst e2; subst e3
  rw [← e1]
  exact lwG_in (List.mem_of_getElem? h2.1) h2.2
theorem nat_words : (([.static Lib.Math.min.name, .static Lib.Math.max.name, .static Lib.MathLoose.max_long.x, .static arraycopyName, .native arraycopyName, .initialized "java/lang/Math", .initialized "java/lang/System", .code Lib.Math.min.name Lib.Math.min.code 2 (some .int), .code Lib.Math.max.name Lib.Math.max.code 2 (some .int), .code Lib.MathLoose.max_long.x Lib.MathLoose.max_long.code 4 (some .long)] : List Cond).all (fun w => decide (w ∈ lw_tbl) && goodWord w)) = true := by decide +kernel
theorem nat_in (w : Cond) (h : w ∈ ([.static Lib.Math.min.name, .static Lib.Math.max.name, .static Lib.MathLoose.max_long.x, .static arraycopyName, .native arraycopyName, .initialized "java/lang/Math", .initialized "java/lang/System", .code Lib.Math.min.name Lib.Math.min.code 2 (some .int), .code Lib.Math.max.name Lib.Math.max.code 2 (some .int), .code Lib.MathLoose.max_long.x Lib.MathLoose.max_long.code 4 (some .long)] : List Cond)) : w ∈ lwG := by
  have h2 := List.all_eq_true.mp nat_words w h
  simp only [Bool.and_eq_true, decide_eq_true_eq] at h2
  exact lwG_in h2.1 h2.2
theorem ktab_all : (ktab.all (fun e => decide (e.2.2.1 < 256) && (lw_tbl[e.2.2.2]? == some (.methodLink (ocN e.1) e.2.1 (mY e.2.2.1)) && goodWord (.methodLink (ocN e.1) e.2.1 (mY e.2.2.1))))) = true := by decide +kernel
theorem ktab_use {μ i y : Nat} (h : ktab.any (fun e => e.1 == mC μ && e.2.1 == i && e.2.2.1 == y) = true) : y < 256 ∧ Cond.methodLink (ocN (mC μ)) i (mY y) ∈ lwG := by
  obtain ⟨e, he, h1⟩ := List.any_eq_true.mp h
  have h2 := List.all_eq_true.mp ktab_all e he
  simp only [Bool.and_eq_true, beq_iff_eq, decide_eq_true_eq] at h1 h2
  obtain ⟨⟨e1, e2⟩, e3⟩ := h1
  subst e2; subst e3
  rw [← e1]
  exact ⟨h2.1, lwG_in (List.mem_of_getElem? h2.2.1) h2.2.2⟩
/-- what each method's row says: its class, how many locals, its parameters, and where its words stand -/
theorem meth_a : ((List.range 256).all (fun y => (mY y).cls == ocN (mC y) && decide (mX y ≤ 21) && ((parseMethodDescriptor (mY y).desc).map (fun d => d.parameters.length) == some (if mS y then mA y else mA y - 1)) && plainName (mY y).cls && decide ((mY y).cls ≠ "java/lang/invoke/MethodHandle") && decide ((mY y).cls ≠ "java/lang/invoke/VarHandle") && decide (mS y = true ∨ 0 < mA y))) = true := by decide +kernel
def meth_bP (y : Nat) : Bool := (fun (q : Nat × Nat × Nat × Nat) => lw_tbl[q.1]? == some (.code (mY y) (mB y) (mX y) (mR y)) && goodWord (.code (mY y) (mB y) (mX y) (mR y)) && lw_tbl[q.2.2.2]? == some (.initialized (mY y).cls) && goodWord (.initialized (mY y).cls) && (if mS y then lw_tbl[q.2.1]? == some (.static (mY y)) && goodWord (.static (mY y)) else (lw_tbl[q.2.1]? == some (.instanceMethod (mY y)) && goodWord (.instanceMethod (mY y)) && lw_tbl[q.2.2.1]? == some (.selects (mY y).cls (mY y) (mY y)) && goodWord (.selects (mY y).cls (mY y) (mY y))))) (mwtab.getD y (0, 0, 0, 0))
theorem meth_b0 : ((List.range 16).all (fun i => meth_bP (0 + i) || decide (256 ≤ 0 + i))) = true := by decide +kernel
theorem meth_b1 : ((List.range 16).all (fun i => meth_bP (16 + i) || decide (256 ≤ 16 + i))) = true := by decide +kernel
theorem meth_b2 : ((List.range 16).all (fun i => meth_bP (32 + i) || decide (256 ≤ 32 + i))) = true := by decide +kernel
theorem meth_b3 : ((List.range 16).all (fun i => meth_bP (48 + i) || decide (256 ≤ 48 + i))) = true := by decide +kernel
theorem meth_b4 : ((List.range 16).all (fun i => meth_bP (64 + i) || decide (256 ≤ 64 + i))) = true := by decide +kernel
theorem meth_b5 : ((List.range 16).all (fun i => meth_bP (80 + i) || decide (256 ≤ 80 + i))) = true := by decide +kernel
theorem meth_b6 : ((List.range 16).all (fun i => meth_bP (96 + i) || decide (256 ≤ 96 + i))) = true := by decide +kernel
theorem meth_b7 : ((List.range 16).all (fun i => meth_bP (112 + i) || decide (256 ≤ 112 + i))) = true := by decide +kernel
theorem meth_b8 : ((List.range 16).all (fun i => meth_bP (128 + i) || decide (256 ≤ 128 + i))) = true := by decide +kernel
theorem meth_b9 : ((List.range 16).all (fun i => meth_bP (144 + i) || decide (256 ≤ 144 + i))) = true := by decide +kernel
theorem meth_b10 : ((List.range 16).all (fun i => meth_bP (160 + i) || decide (256 ≤ 160 + i))) = true := by decide +kernel
theorem meth_b11 : ((List.range 16).all (fun i => meth_bP (176 + i) || decide (256 ≤ 176 + i))) = true := by decide +kernel
theorem meth_b12 : ((List.range 16).all (fun i => meth_bP (192 + i) || decide (256 ≤ 192 + i))) = true := by decide +kernel
theorem meth_b13 : ((List.range 16).all (fun i => meth_bP (208 + i) || decide (256 ≤ 208 + i))) = true := by decide +kernel
theorem meth_b14 : ((List.range 16).all (fun i => meth_bP (224 + i) || decide (256 ≤ 224 + i))) = true := by decide +kernel
theorem meth_b15 : ((List.range 16).all (fun i => meth_bP (240 + i) || decide (256 ≤ 240 + i))) = true := by decide +kernel
theorem meth_b {y : Nat} (h : y < 256) : meth_bP y = true := by
  have key : ∀ (k : Nat), ((List.range 16).all (fun i => meth_bP (16 * k + i) || decide (256 ≤ 16 * k + i))) = true → y / 16 = k → meth_bP y = true := by
    intro k hk e
    have h2 := List.all_eq_true.mp hk (y % 16) (List.mem_range.mpr (Nat.mod_lt _ (by decide)))
    rw [show 16 * k + y % 16 = y by omega] at h2
    simp only [Bool.or_eq_true, decide_eq_true_eq] at h2
    rcases h2 with h2 | h2
    · exact h2
    · omega
  have : y / 16 < 16 := by omega
  have hc : y / 16 = 0 ∨ y / 16 = 1 ∨ y / 16 = 2 ∨ y / 16 = 3 ∨ y / 16 = 4 ∨ y / 16 = 5 ∨ y / 16 = 6 ∨ y / 16 = 7 ∨ y / 16 = 8 ∨ y / 16 = 9 ∨ y / 16 = 10 ∨ y / 16 = 11 ∨ y / 16 = 12 ∨ y / 16 = 13 ∨ y / 16 = 14 ∨ y / 16 = 15 := by omega
  rcases hc with h | h | h | h | h | h | h | h | h | h | h | h | h | h | h | h
  · exact key 0 meth_b0 h
  · exact key 1 meth_b1 h
  · exact key 2 meth_b2 h
  · exact key 3 meth_b3 h
  · exact key 4 meth_b4 h
  · exact key 5 meth_b5 h
  · exact key 6 meth_b6 h
  · exact key 7 meth_b7 h
  · exact key 8 meth_b8 h
  · exact key 9 meth_b9 h
  · exact key 10 meth_b10 h
  · exact key 11 meth_b11 h
  · exact key 12 meth_b12 h
  · exact key 13 meth_b13 h
  · exact key 14 meth_b14 h
  · exact key 15 meth_b15 h
theorem meth_a_use {y : Nat} (h : y < 256) : (mY y).cls = ocN (mC y) ∧ mX y ≤ 21 ∧ (∀ sig, parseMethodDescriptor (mY y).desc = some sig → (if mS y then mA y else mA y - 1) = sig.parameters.length) ∧ plainName (mY y).cls = true ∧ ((mY y).cls ≠ "java/lang/invoke/MethodHandle" ∧ (mY y).cls ≠ "java/lang/invoke/VarHandle") ∧ (mS y = true ∨ 0 < mA y) := by
  have h2 := List.all_eq_true.mp meth_a y (List.mem_range.mpr h)
  simp only [Bool.and_eq_true, beq_iff_eq, decide_eq_true_eq] at h2
  obtain ⟨⟨⟨⟨⟨⟨a1, a2⟩, a3⟩, a4⟩, a5⟩, a6⟩, a7⟩ := h2
  refine ⟨a1, a2, fun sig hs => ?_, a4, ⟨a5, a6⟩, a7⟩
  rw [hs] at a3
  exact (Option.some.inj a3).symm
theorem meth_b_use {y : Nat} (h : y < 256) : Cond.code (mY y) (mB y) (mX y) (mR y) ∈ lwG ∧ Cond.initialized (mY y).cls ∈ lwG ∧ (mS y = true → Cond.static (mY y) ∈ lwG) ∧ (mS y = false → Cond.instanceMethod (mY y) ∈ lwG ∧ Cond.selects (mY y).cls (mY y) (mY y) ∈ lwG) := by
  have h2 := meth_b h
  unfold meth_bP at h2
  simp only [Bool.and_eq_true, beq_iff_eq] at h2
  obtain ⟨⟨⟨⟨b1, b2⟩, b3⟩, b4⟩, b5⟩ := h2
  refine ⟨lwG_in (List.mem_of_getElem? b1) b2, lwG_in (List.mem_of_getElem? b3) b4, fun hs => ?_, fun hs => ?_⟩
  · rw [if_pos hs] at b5
    simp only [Bool.and_eq_true, beq_iff_eq] at b5
    exact lwG_in (List.mem_of_getElem? b5.1) b5.2
  · rw [if_neg (by rw [hs]; decide)] at b5
    simp only [Bool.and_eq_true, beq_iff_eq] at b5
    obtain ⟨⟨⟨c1, c2⟩, c3⟩, c4⟩ := b5
    exact ⟨lwG_in (List.mem_of_getElem? c1) c2, lwG_in (List.mem_of_getElem? c3) c4⟩
