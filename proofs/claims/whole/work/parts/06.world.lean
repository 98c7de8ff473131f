/-! worlds, contracts, and what holds while a method runs -/
abbrev EV : Type := (Nat → Nat) × va_G × (Nat → ClassId)
def mv (ev : EV) : Value → Value
  | .ref k => .ref (ev.1 k)
  | v => v
def fvl (ev : EV) (g : Nat) (σ : St2) (c k j : Nat) : Value := match fkT c j with
  | 0 => .int (σ.1 k j)
  | 1 => .int (σ.1 k j)
  | 2 => .long (σ.2 k j)
  | _ => .ref (ev.1 (rfs g k j))
def cN (c : Nat) : Nat := (fkL.getD c []).length
def ent (ev : EV) (g : Nat) (σ : St2) (k : Nat) : va_E :=
  if (shp g k).1 < 10 then .inr ((shp g k).1, (List.range (cN (shp g k).1)).map (fvl ev g σ (shp g k).1 k))
  else if (shp g k).1 < 102 then .inl (ev.2.2 (shp g k).1, (shp g k).2, .inl (σ.1 k))
  else .inl (ev.2.2 (shp g k).1, (shp g k).2, .inr (.inr (.inr (.inr (fun j => some (ev.1 (rfs g k j)))))))
def wld (ev : EV) (g : Nat) (σ : St2) : va_W := (List.range (nC g)).map (fun k => (ev.1 k, ent ev g σ k))
abbrev Hld (g : Nat) (ev : EV) (σ : St2) (H : Heap) : Prop := va_P ev.2.1 cls7 (wld ev g σ) H
def tysG (ev : EV) : List (ClassId × FieldType) := [(ev.2.2 100, .int), (ev.2.2 101, .char), (ev.2.2 102, .array .int), (ev.2.2 103, .object "ChainedChest$Sheet")]
abbrev Kno (ev : EV) (U : State) : Prop := va_K ev.2.1 cls7 (tysG ev) U
def Af (g : Nat) (ev : EV) : Nat → Prop := fun q => ∃ k, k < nC g ∧ q = ev.1 k
def Inj (g : Nat) (ev : EV) : Prop := ∀ i j, i < nC g → j < nC g → ev.1 i = ev.1 j → i = j
def stN (k : Nat) : String := ["LEAST_TRAIT", "MOST_TRAIT", "FIRST_TRAIT", "MOST_RULE", "FIRST_RULE", "PARENT"].getD (k - 200) ""
def sioD : String := "Ljava/util/function/BiFunction;"
def ExA (ev : EV) (A : Nat → Prop) (U : State) (H : Heap) : Prop := ∀ k, 200 ≤ k → k < 206 → va_Z RX0 (stN k) "[I" (.ref (ev.1 k)) A U H ∧ va_T .int (ev.1 k) (shp 0 k).2 (fun j => .int (cst k j)) A U H
def ExS (ev : EV) (A : Nat → Prop) (U : State) (H : Heap) : Prop := ∀ k, 300 ≤ k → k < 316 → ∀ q, strL[k - 300]? = some q → vk_R RX3 q.1 q.2 (ev.1 k) U ∧ va_O "java/lang/String" (ev.1 k) A U H ∧ va_OF "java/lang/String" "coder" "B" (.int 0) (ev.1 k) A U H ∧ va_OF "java/lang/String" "value" "[B" (.ref (ev.1 (k + 100))) (ev.1 k) A U H ∧ va_T .byte (ev.1 (k + 100)) (shp 0 (k + 100)).2 (fun j => .int (cst (k + 100) j)) A U H
def ExC (A : Nat → Prop) (U : State) (H : Heap) : Prop := va_Z "java/lang/String" "COMPACT_STRINGS" "Z" (.int 1) A U H
def ExQ (ev : EV) (A : Nat → Prop) (U : State) (H : Heap) : Prop := va_Z "jdk/internal/util/Preconditions" "SIOOBE_FORMATTER" sioD .null A U H ∨ va_Z "jdk/internal/util/Preconditions" "SIOOBE_FORMATTER" sioD (.ref (ev.1 999)) A U H
def Ex (g : Nat) (ev : EV) (U : State) (H : Heap) : Prop := g = 0 → ExA ev (Af g ev) U H ∧ ExS ev (Af g ev) U H ∧ ExC (Af g ev) U H ∧ ExQ ev (Af g ev) U H
theorem Ex.warm {g : Nat} {ev : EV} {s U : State} {H : Heap} (hW : s.WarmedH U.vm) (h : Ex g ev s H) : Ex g ev U H := fun h0 =>
  ⟨fun k h1 h2 => ⟨va_Z.moved hW.alike ((h h0).1 k h1 h2).1, va_T.moved hW.alike ((h h0).1 k h1 h2).2⟩,
   fun k h1 h2 q hq => ⟨vk_R.warm hW ((h h0).2.1 k h1 h2 q hq).1, va_O.moved hW.alike ((h h0).2.1 k h1 h2 q hq).2.1, va_OF.moved hW.alike ((h h0).2.1 k h1 h2 q hq).2.2.1, va_OF.moved hW.alike ((h h0).2.1 k h1 h2 q hq).2.2.2.1, va_T.moved hW.alike ((h h0).2.1 k h1 h2 q hq).2.2.2.2⟩,
   va_Z.moved hW.alike (h h0).2.2.1, (h h0).2.2.2.elim (fun z => Or.inl (va_Z.moved hW.alike z)) (fun z => Or.inr (va_Z.moved hW.alike z))⟩
theorem Ex.kept {g : Nat} {ev : EV} {U : State} {H H1 : Heap} (h : Ex g ev U H) (hq : ∀ a : Nat, a < H.size → ¬ Af g ev a → H1[a]? = H[a]?) : Ex g ev U H1 := fun h0 =>
  ⟨fun k h1 h2 => ⟨((h h0).1 k h1 h2).1.kept hq, ((h h0).1 k h1 h2).2.kept hq⟩,
   fun k h1 h2 q hs => ⟨((h h0).2.1 k h1 h2 q hs).1, ((h h0).2.1 k h1 h2 q hs).2.1.kept hq, ((h h0).2.1 k h1 h2 q hs).2.2.1.kept hq, ((h h0).2.1 k h1 h2 q hs).2.2.2.1.kept hq, ((h h0).2.1 k h1 h2 q hs).2.2.2.2.kept hq⟩,
   (h h0).2.2.1.kept hq, (h h0).2.2.2.elim (fun z => Or.inl (z.kept hq)) (fun z => Or.inr (z.kept hq))⟩
def Wrd (g : Nat) (ev : EV) (σ : St2) (U : State) : Prop := Hld g ev σ U.heap ∧ Inj g ev ∧ Kno ev U ∧ Ex g ev U U.heap
def lwG : List Cond := lw_tbl.filter goodWord
def wsM (μ : Nat) : List Cond := .code (mY μ) (mB μ) (mX μ) (mR μ) :: lwG
def rmM (μ : Nat) : Room := { frames := mE μ, cells := 0, slots := 0, locals := 40 * mE μ }
def QcO (g : Nat) (ev : EV) (Post : PO) : Array Value → State → Outcome → State → Prop := fun _ st o t => (∃ (r : Option Value) (σ : St2), o = .returned (r.map (mv ev)) ∧ Post r σ ∧ Wrd g ev σ t) ∧ va_F (Af g ev) st t
def rcv (g c k : Nat) : Prop := (k < nC g ∧ (shp g k).1 = c ∧ c < 7) ∨ (c = 9 ∧ g = 0 ∧ 300 ≤ k ∧ k < 316)
def Rn (g : Nat) (ev : EV) (μ : Nat) (as : List Value) (σ : St2) (K : PO) : Prop := (mS μ = false → ∃ (k : Nat) (as' : List Value), as = .ref k :: as' ∧ rcv g (mC μ) k) ∧ as.length = mA μ ∧
  ∀ l : Launch, Met l (mY μ) (wsM μ) (rmM μ) (va_Pc (as.map (mv ev)) (Wrd g ev σ)) (QcO g ev K) 0 0 (Af g ev)
def Cx (g : Nat) (ev : EV) (μ : Nat) (p : Program) (s : State) (m : MethodId) (args : Array Value) (meth : Method) (c : Code) : Prop :=
  p.tables.exec = Jvm.exec ∧ c.code = mB μ ∧ meth.sig.returnType = mR μ ∧ c.maxLocals = mX μ ∧ s.vm.findClass (ocN (mC μ)) = some m.cls ∧ (∀ w ∈ wsM μ, w.before args s = true) ∧ meth.locks = false ∧ Inj g ev ∧ Kno ev s ∧ Ex g ev s s.heap
def PW (g : Nat) (ev : EV) (μ pc : Nat) (ls st : List Value) (σ : St2) (Post : PO) : Prop :=
  ∀ (p : Program) (l : Launch) (e : Env) (s : State) (m : MethodId) (args : Array Value) (below : List Frame) (meth : Method) (c : Code) (H : Heap) (locs : List Loc) (ms : Array Slot),
    Cx g ev μ p s m args meth c → Hld g ev σ H → va_S (Af g ev) s.heap H locs → lv_has ms (mX μ) (lv_args 0 (ls.map (mv ev))) →
    W p l e (rmM μ) s m args below meth c H locs 0 0 (MQ below (QcO g ev Post) args s 0 0 (Af g ev)) (F0 m pc ms (st.map (mv ev)))
/-! the tables' facts -/
theorem fkT_c : ∀ c, c < 7 → ∀ j, j < cN c → ((cls7.getD c default).2.2 = cN c) := by decide +kernel
