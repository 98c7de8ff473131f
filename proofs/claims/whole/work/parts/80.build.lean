/-! objects being built: a block of cells from h on, the newest last -/
def BW (D : va_G) (h : Nat) (L : List va_E) (H : Heap) : Prop := H.size = h + L.length ∧ ∀ (j : Nat) (x : va_E), L[j]? = some x → va_at D cls7 (h + j, x) H
/-- the static table of a new chest's rules -/
def yT : MethodName := ⟨"ChainedChest$Tape", "<init>", "()V"⟩
def yS : MethodName := ⟨"ChainedChest$Sheet", "<init>", "()V"⟩
def AI (U : State) : Prop := (Cond.arrayOver (.array .int)).before #[] U = true
theorem AI.use {A : Array Value} {U : State} (h : AI U) : (Cond.arrayOver (.array .int)).before A U = true := h
theorem AI.of {A : Array Value} {U : State} (h : (Cond.arrayOver (.array .int)).before A U = true) : AI U := h
theorem AI.moved {u U : State} (hvm : u.vm.Alike U.vm) (h : AI u) : AI U := (Cond.arrayOver_setVmC (args := #[]) (s := u) hvm (.array .int)).trans h
def FR (fr : Nat) (A : Nat → Prop) (U : State) (H : Heap) : Prop := (va_Z RX0 "FIRST_RULE" "[I" (.ref fr) A U H ∧ va_T .int fr 5 (fun j => .int (cst 204 j)) A U H) ∧ va_Nw (.methodLinkNest "ChainedChest" 42 yT "ChainedChest") U ∧ va_Nw (.methodLinkNest "ChainedChest" 61 yS "ChainedChest") U ∧ AI U ∧ va_AO "ChainedChest$Sheet" U
theorem FR.warm {fr : Nat} {A : Nat → Prop} {s U : State} {H : Heap} (hW : s.WarmedH U.vm) (h : FR fr A s H) : FR fr A U H := ⟨⟨va_Z.moved hW.alike h.1.1, va_T.moved hW.alike h.1.2⟩, va_Nw.warmM hW h.2.1, va_Nw.warmM hW h.2.2.1, AI.moved hW.alike h.2.2.2.1, va_AO.moved hW.alike h.2.2.2.2⟩
theorem FR.kept {fr : Nat} {A : Nat → Prop} {U : State} {H H1 : Heap} (h : FR fr A U H) (hq : ∀ a : Nat, a < H.size → ¬ A a → H1[a]? = H[a]?) : FR fr A U H1 := ⟨⟨h.1.1.kept hq, h.1.2.kept hq⟩, h.2⟩
def BC (ev : EV) (own : String) (cc : ByteArray) (nL h h0 fr : Nat) (p : Program) (s : State) (m : MethodId) (args : Array Value) (meth : Method) (c : Code) : Prop :=
  p.tables.exec = Jvm.exec ∧ c.code = cc ∧ c.maxLocals = nL ∧ meth.sig.returnType = none ∧ s.vm.findClass own = some m.cls ∧ (∀ w ∈ lwG, w.before args s = true) ∧ meth.locks = false ∧ meth.name = "<init>" ∧ Kno ev s ∧ FR fr (fun q => h0 ≤ q) s s.heap ∧ h0 ≤ h ∧ s.heap.size = h + 1
def CW (p : Program) (l : Launch) (e : Env) (R : Room) (s : State) (m : MethodId) (args : Array Value) (below : List Frame) (meth : Method) (c : Code) (ev : EV) (nL h : Nat) (Q : State → Prop) (pc : Nat) (lv : List (Nat × Value)) (st : List Value) (L : List va_E) (kc ks : Nat) : Prop :=
  ∀ (H : Heap) (locs : List Loc) (ms : Array Slot), BW ev.2.1 h L H → va_S (fun q : Nat => h ≤ q) s.heap H locs → lv_has ms nL lv → W p l e R s m args below meth c H locs kc ks Q (F0 m pc ms st)
theorem BW_push {D : va_G} {h : Nat} {L : List va_E} {x : va_E} {H H1 : Heap} (hB : BW D h L H) (ho : ∀ q : Nat, q < H.size → H1[q]? = H[q]?) (hz : H1.size = h + L.length + 1) (hx : va_at D cls7 (h + L.length, x) H1) : BW D h (L ++ [x]) H1 := by
  refine ⟨by rw [hz, List.length_append]; rfl, fun j y hy => ?_⟩
  rcases Nat.lt_or_ge j L.length with z | z
  · rw [List.getElem?_append_left z] at hy
    have h1 := hB.2 j y hy
    exact h1.kept (ho _ h1.lt)
  · rw [List.getElem?_append_right z] at hy
    have hz : j - L.length < 1 := (List.getElem?_eq_some_iff.mp hy).1
    have e : j = L.length := by omega
    subst e
    rw [Nat.sub_self] at hy
    cases hy
    exact hx
theorem BW_set {D : va_G} {h j : Nat} {L : List va_E} {x y : va_E} {H H1 : Heap} (hB : BW D h L H) (hj : L[j]? = some y) (ho : ∀ q : Nat, q ≠ h + j → H1[q]? = H[q]?) (hz : H1.size = H.size) (hx : va_at D cls7 (h + j, x) H1) : BW D h (L.set j x) H1 := by
  refine ⟨by rw [hz, List.length_set]; exact hB.1, fun i y hy => ?_⟩
  by_cases e : i = j
  · subst e
    have hl : i < L.length := (List.getElem?_eq_some_iff.mp hj).1
    rw [List.getElem?_set_self hl] at hy
    cases hy
    exact hx
  · rw [List.getElem?_set_ne (fun z => e z.symm)] at hy
    exact (hB.2 i y hy).kept (ho _ (by omega))
theorem vaS_new {A : Nat → Prop} {H0 H H1 : Heap} {locs : List Loc} (hS : va_S A H0 H locs) (hz : H1.size = H.size + 1) (ho : ∀ q : Nat, q < H.size → H1[q]? = H[q]?) : va_S A H0 H1 locs :=
  ⟨Nat.le_trans hS.1 (by omega), fun x h1 h2 => (ho x (Nat.lt_of_lt_of_le h1 hS.1)).trans (hS.2.1 x h1 h2), hS.2.2⟩
theorem vaS_w {A A' : Nat → Prop} {H0 H : Heap} {locs : List Loc} (hS : va_S A H0 H locs) (h : ∀ q, A q → A' q) : va_S A' H0 H locs :=
  ⟨hS.1, fun q h1 h2 => hS.2.1 q h1 (fun z => h2 (h q z)), fun q hq => h _ (hS.2.2 q hq)⟩
def zeroL (ci : Nat) : List Value := (List.range (cN ci)).map (fun j => defaultValue (tyG ci j))
section BR
variable {p : Program} {l : Launch} {e : Env} {R : Room} {s : State} {m : MethodId} {args : Array Value} {below : List Frame} {meth : Method} {c : Code} {ev : EV} {own : String} {cc : ByteArray} {nL h h0 fr : Nat} {Q : State → Prop} {pc : Nat} {lv : List (Nat × Value)} {st : List Value} {L : List va_E} {kc ks : Nat}
theorem c_ald {n : Fin 4} {x : Nat} (k : Nat) (B : BC ev own cc nL h h0 fr p s m args meth c) (hd : decode cc pc = .ok (.aload_n n, 1)) (hk : lv[k]? = some (n.val, .ref x)) (kk : CW p l e R s m args below meth c ev nL h Q (pc + 1) lv (.ref x :: st) L kc ks) : CW p l e R s m args below meth c ev nL h Q pc lv st L kc ks := fun H locs ms hB hS hl =>
  lv_aload_n B.1 B.2.1 hd rfl (lv_at hl k hk) (kk H locs ms hB hS hl)
theorem c_ild {n : Fin 4} {x : Int32} (k : Nat) (B : BC ev own cc nL h h0 fr p s m args meth c) (hd : decode cc pc = .ok (.iload_n n, 1)) (hk : lv[k]? = some (n.val, .int x)) (kk : CW p l e R s m args below meth c ev nL h Q (pc + 1) lv (.int x :: st) L kc ks) : CW p l e R s m args below meth c ev nL h Q pc lv st L kc ks := fun H locs ms hB hS hl =>
  lv_iload_n B.1 B.2.1 hd rfl (lv_at hl k hk) (kk H locs ms hB hS hl)
theorem c_ic {n : Int} {v : Int32} (B : BC ev own cc nL h h0 fr p s m args meth c) (hd : decode cc pc = .ok (.iconst n, 1)) (hv : Int32.ofInt n = v) (kk : CW p l e R s m args below meth c ev nL h Q (pc + 1) lv (.int v :: st) L kc ks) : CW p l e R s m args below meth c ev nL h Q pc lv st L kc ks := fun H locs ms hB hS hl =>
  lv_iconst B.1 B.2.1 hd hv (kk H locs ms hB hS hl)
theorem c_bi {n : Int} {v : Int32} (B : BC ev own cc nL h h0 fr p s m args meth c) (hd : decode cc pc = .ok (.bipush n, 2)) (hv : (Int8.ofInt n).toInt32 = v) (kk : CW p l e R s m args below meth c ev nL h Q (pc + 2) lv (.int v :: st) L kc ks) : CW p l e R s m args below meth c ev nL h Q pc lv st L kc ks := fun H locs ms hB hS hl =>
  lv_bipush B.1 B.2.1 hd hv (kk H locs ms hB hS hl)
theorem c_si {n : Int} {v : Int32} (B : BC ev own cc nL h h0 fr p s m args meth c) (hd : decode cc pc = .ok (.sipush n, 3)) (hv : (Int16.ofInt n).toInt32 = v) (kk : CW p l e R s m args below meth c ev nL h Q (pc + 3) lv (.int v :: st) L kc ks) : CW p l e R s m args below meth c ev nL h Q pc lv st L kc ks := fun H locs ms hB hS hl =>
  lv_sipush B.1 B.2.1 hd hv (kk H locs ms hB hS hl)
theorem c_dup {x : Nat} (B : BC ev own cc nL h h0 fr p s m args meth c) (hd : decode cc pc = .ok (.dup, 1)) (kk : CW p l e R s m args below meth c ev nL h Q (pc + 1) lv (.ref x :: .ref x :: st) L kc ks) : CW p l e R s m args below meth c ev nL h Q pc lv (.ref x :: st) L kc ks := fun H locs ms hB hS hl =>
  lv_dup B.1 B.2.1 hd rfl (kk H locs ms hB hS hl)
theorem aci : Cond.arrayClass .int ∈ lwG := lwG_at 135 (by decide +kernel)
theorem acc : Cond.arrayClass .char ∈ lwG := lwG_at 1103 (by decide +kernel)
/-- a new array of ints or chars -/
theorem c_newa {n : Int32} {N t : Nat} {ty : ArrayType} {tt : FieldType} {f : Nat → Int32} (B : BC ev own cc nL h h0 fr p s m args meth c) (hd : decode cc pc = .ok (.newarray ty, 2)) (ht : (ty = .int ∧ tt = .int ∧ t = 100) ∨ (ty = .char ∧ tt = .char ∧ t = 101)) (hn : n = nI N) (hN : N ≤ 2000) (hc : kc + 1 ≤ R.cells) (hs : ks + N ≤ R.slots) (hf : f = fun _ => 0)
    (kk : CW p l e R s m args below meth c ev nL h Q (pc + 2) lv (.ref (h + L.length) :: st) (L ++ [.inl (ev.2.2 t, N, .inl f)]) (kc + 1) (ks + N)) : CW p l e R s m args below meth c ev nL h Q pc lv (.int n :: st) L kc ks := fun H locs ms hB hS hl => by
  subst hn; subst hf
  have hg : ∀ (H1 : Heap) (cA : ClassId), H1[h + L.length]? = some (arrV cA N (fun _ => .int 0)) → H1.size = h + L.length + 1 → (∀ q, q < h + L.length → H1[q]? = H[q]?) → cA = ev.2.2 t → W p l e R s m args below meth c H1 locs (kc + 1) (ks + N) Q (F0 m (pc + 2) ms (.ref (h + L.length) :: st)) := fun H1 cA e1 z1 o1 eA => by
    have o1' : ∀ q, q < H.size → H1[q]? = H[q]? := fun q hq => o1 q (by rw [← hB.1]; exact hq)
    refine kk H1 locs ms (BW_push hB o1' z1 ?_) (vaS_new hS (by rw [z1, hB.1]) o1') hl
    show H1[h + L.length]? = some (vp_cell _ _)
    rw [e1, eA]
    rfl
  rcases ht with ⟨rfl, rfl, rfl⟩ | ⟨rfl, rfl, rfl⟩
  · have ha : (Cond.arrayClass (newarray.typeOf .int)).before args s = true := B.2.2.2.2.2.1 _ aci
    refine va_newaK (atype := .int) B.1 B.2.1 ha rfl hd rfl (nI_pos (by omega)) (nI_clamp (by omega)) (by show N * 4 ≤ _; omega) hc hs hB.1 (fun H1 cA e1 z1 o1 hAr hNm => hg H1 cA e1 z1 o1 ?_)
    exact Option.some.inj (hNm.symm.trans (B.2.2.2.2.2.2.2.2.1.2 0 (ev.2.2 100, .int) rfl).2)
  · have ha : (Cond.arrayClass (newarray.typeOf .char)).before args s = true := B.2.2.2.2.2.1 _ acc
    refine va_newaK (atype := .char) B.1 B.2.1 ha rfl hd rfl (nI_pos (by omega)) (nI_clamp (by omega)) (by show N * 2 ≤ _; omega) hc hs hB.1 (fun H1 cA e1 z1 o1 hAr hNm => hg H1 cA e1 z1 o1 ?_)
    exact Option.some.inj (hNm.symm.trans (B.2.2.2.2.2.2.2.2.1.2 1 (ev.2.2 101, .char) rfl).2)
/-- a new object -/
theorem c_new {ci i : Nat} (B : BC ev own cc nL h h0 fr p s m args meth c) (hd : decode cc pc = .ok (.new i, 3)) (hci : ci < 7) (hw : Cond.classLink own i (clG ci).1 ∈ lwG ∧ Cond.instantiable (clG ci).1 (cN ci) ∈ lwG ∧ Cond.initialized (clG ci).1 ∈ lwG) (hc : kc + 1 ≤ R.cells) (hs : ks + cN ci ≤ R.slots)
    (kk : CW p l e R s m args below meth c ev nL h Q (pc + 3) lv (.ref (h + L.length) :: st) (L ++ [.inr (ci, zeroL ci)]) (kc + 1) (ks + cN ci)) : CW p l e R s m args below meth c ev nL h Q pc lv st L kc ks := fun H locs ms hB hS hl => by
  obtain ⟨q1, q2, q3⟩ := clG_at ci hci
  have hts := B.2.2.2.2.2.1
  have hKn := B.2.2.2.2.2.2.2.2.1.1 ci _ q1
  refine W.newcK B.1 B.2.1 B.2.2.2.2.1 (hts _ hw.1) (hts _ hw.2.1) (hts _ hw.2.2) rfl hd hc hs hKn.2.1 hB.1 (fun H1 kC hkC e1 z1 o1 => ?_)
  have o1' : ∀ q, q < H.size → H1[q]? = H[q]? := fun q hq => o1 q (by rw [← hB.1]; exact hq)
  refine kk H1 locs ms (BW_push hB o1' z1 ⟨_, q1, (u_born (tyG ci) hts (inG ci hci) hKn hkC e1 (tyG_ok ci hci)).to (fun k hk => ?_)⟩) (vaS_new hS (by rw [z1, hB.1]) o1') hl
  rw [q2] at hk
  show _ = vp_V (zeroL ci) k
  unfold vp_V zeroL
  simp [hk]
end BR
