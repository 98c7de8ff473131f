/-! objects being built: arrays of references, tables, and a part's own start -/
section BR
variable {p : Program} {l : Launch} {e : Env} {R : Room} {s : State} {m : MethodId} {args : Array Value} {below : List Frame} {meth : Method} {c : Code} {ev : EV} {own : String} {cc : ByteArray} {nL h h0 fr : Nat} {Q : State → Prop} {pc : Nat} {lv : List (Nat × Value)} {st : List Value} {L : List va_E} {kc ks : Nat}
def rfE (n t : Nat) (ev : EV) (f : Nat → Option Nat) : va_E := .inl (ev.2.2 t, n, .inr (.inr (.inr (.inr f))))
/-- a new array of sheets -/
theorem c_anew {n : Int32} {N i : Nat} (B : BC ev own cc nL h h0 fr p s m args meth c) (hd : decode cc pc = .ok (.anewarray i, 3)) (hw : Cond.classLink own i "ChainedChest$Sheet" ∈ lwG) (hn : n = nI N) (hN : N ≤ 2000) (hc : kc + 1 ≤ R.cells) (hs : ks + N ≤ R.slots)
    (kk : CW p l e R s m args below meth c ev nL h Q (pc + 3) lv (.ref (h + L.length) :: st) (L ++ [rfE N 103 ev (fun _ => none)]) (kc + 1) (ks + N)) : CW p l e R s m args below meth c ev nL h Q pc lv (.int n :: st) L kc ks := fun H locs ms hB hS hl => by
  subst hn
  have hcl : (nI N).toNatClampNeg = N := nI_clamp (by omega)
  have key := W.anew (p := p) (l := l) (e := e) (R := R) (s := s) (m := m) (args := args) (below := below) (meth := meth) (c := c) (H := H) (locs := locs) (cells := kc) (slots := ks) (Q := Q) (g := F0 m pc ms (.int (nI N) :: st)) B.1 B.2.1 B.2.2.2.2.1 (B.2.2.2.2.2.1 _ hw) (va_AO.use B.2.2.2.2.2.2.2.2.2.1.2.2.2.2) rfl hd rfl (nI_pos (by omega)) (by rw [hcl]; omega) hc (by rw [hcl]; exact hs)
  refine key fun cA kA comp f1 f2 f3 f4 => ?_
  rw [hcl]
  generalize hH1 : H.push ({ cls := cA, slots := Array.replicate N .null, vm := .none } : Cell) = H1
  have z1 : H1.size = H.size + 1 := by rw [← hH1, Array.size_push]
  have e1 : H1[H.size]? = some (arrV cA N (fun _ => .null)) := by rw [← hH1, Array.getElem?_push_size, ← arrV_new]
  have o1 : ∀ q : Nat, q < H.size → H1[q]? = H[q]? := fun q hq => by rw [← hH1, Array.getElem?_push, if_neg (Nat.ne_of_lt hq)]
  have eA : cA = ev.2.2 103 := by
    obtain ⟨kA2, comp2, -, -, -, g4⟩ := (B.2.2.2.2.2.2.2.2.1.2 3 (ev.2.2 103, .object "ChainedChest$Sheet") rfl).2
    exact Option.some.inj (f1.symm.trans g4)
  rw [hB.1] at e1 ⊢
  refine kk H1 locs ms (BW_push hB o1 (by rw [z1, hB.1]) ?_) (vaS_new hS z1 o1) hl
  show H1[h + L.length]? = some (vp_cell _ _)
  rw [e1, eA]
  rfl
/-- a sheet is put into the array -/
theorem c_aast {j i N k ci : Nat} {fs : List Value} {f : Nat → Option Nat} (B : BC ev own cc nL h h0 fr p s m args meth c) (hd : decode cc pc = .ok (.aastore, 1)) (hj : L[j]? = some (rfE N 103 ev f)) (hk : L[k]? = some (.inr (1, fs))) (hi : i < N) (hN : N ≤ 2000)
    (kk : CW p l e R s m args below meth c ev nL h Q (pc + 1) lv st (L.set j (rfE N 103 ev (va_up f i (some (h + k))))) kc ks) : CW p l e R s m args below meth c ev nL h Q pc lv (.ref (h + k) :: .int (nI i) :: .ref (h + j) :: st) L kc ks := fun H locs ms hB hS hl => by
  have w1 : cls7[1]? = some (clG 1) := (clG_at 1 (by decide)).1
  have hK := B.2.2.2.2.2.2.2.2.1
  have hlt : (nI i).toNatClampNeg < N := by rw [nI_clamp (by omega)]; exact hi
  obtain ⟨r', hr', cellV, g1, g2, g3, -⟩ := hB.2 k _ hk
  have hcls := (hK.1 1 _ w1).2
  obtain ⟨kA, comp, k1, k2, k3, -⟩ := (hK.2 3 (ev.2.2 103, .object "ChainedChest$Sheet") rfl).2
  have hcomp : comp = ev.2.1.1 1 := Option.some.inj (k3.symm.trans hcls.1)
  subst hcomp
  obtain ⟨kC, hkC, -⟩ := hcls.2
  refine W.aast B.1 B.2.1 (hB.2 j _ hj) (fun q h => by cases h) (fun h => by cases h) k1 k2 rfl hkC ⟨nI_pos (by omega), by show _ < (arrV _ _ _).slots.size; rw [arrV_size]; exact hlt⟩ g1 (fun q h => by rw [g3] at h; cases h) (by rw [g2]; exact hkC) (by rw [g2]; exact va_assign hcls) rfl rfl hd fun H1 e z oq => ?_
  refine kk H1 _ ms (BW_set hB hj oq z ?_) (hS.put z oq (Nat.le_add_right h j)) hl
  show H1[h + j]? = some (vp_cell _ _)
  rw [e, vp_cell_q, vp_cell_q, arrV_store, nI_clamp (by omega)]
  congr 2
  funext q
  by_cases hq : q = i
  · subst hq
    simp [updV, va_up, va_rf]
  · simp [updV, va_up, hq]
/-- what a start gives -/
def CtM (l : Launch) (ev : EV) (y : MethodName) (cc : ByteArray) (nL : Nat) (as : List Value) (h h0 fr fe : Nat) (L0 L1 : List va_E) (kc ks : Nat) : Prop := Met l y (.code y cc nL none :: lwG) { frames := fe, cells := kc, slots := ks, locals := 40 * fe } (va_Pc (.ref h :: as) (fun U => BW ev.2.1 h L0 U.heap ∧ Kno ev U ∧ FR fr (fun q => h0 ≤ q) U U.heap)) (fun _ st o t => o = .returned none ∧ BW ev.2.1 h L1 t.heap ∧ va_F (fun q => h ≤ q) st t) kc ks (fun q => h ≤ q)
theorem ct_of {y : MethodName} {as : List Value} {fe : Nat} {x : va_E} {L1 : List va_E} (hp : plainName y.cls = true) (hin : y.name = "<init>") (h0h : h0 ≤ h) (hlen : (lg_sl (.ref h :: as)).length ≤ nL)
    (body : ∀ (p : Program) (e : Env) (s : State) (m : MethodId) (args : Array Value) (below : List Frame) (meth : Method) (c : Code), BC ev y.cls cc nL h h0 fr p s m args meth c → CW p l e { frames := fe, cells := kc, slots := ks, locals := 40 * fe } s m args below meth c ev nL h (MQ below (fun _ st o t => o = .returned none ∧ BW ev.2.1 h L1 t.heap ∧ va_F (fun q => h ≤ q) st t) args s kc ks (fun q => h ≤ q)) 0 (lv_args 0 (.ref h :: as)) [] [x] 0 0) : CtM l ev y cc nL as h h0 fr fe [x] L1 kc ks := by
  refine Met.ofW (cc := cc) (maxL := nL) (ret := none) hp rfl ?_
  intro p e s m args below meth c s₁ B hml hv
  obtain ⟨rfl, hB, hK, hF⟩ := hv
  have hts := atoms_spec (ws := .code y cc nL none :: lwG) B.pre
  have hl := lv_entry (.ref h :: as) (n := nL) hlen
  rw [lg_entry_eq]
  exact body p e s m _ below meth c ⟨B.exec, B.bytes, hml, B.returns, findClass_of_methodNamed B.named, fun w hw => hts w (List.mem_cons_of_mem _ hw), B.notSynchronized, (name_of_methodNamed B.named B.method).1.trans hin, hK, hF, h0h, hB.1⟩ s.heap [] _ hB va_S.rf hl
theorem ct_blind {ev : EV} {h h0 fr : Nat} {L0 : List va_E} {as : List Value} : FrameBlind (va_Pc as (fun U => BW ev.2.1 h L0 U.heap ∧ Kno ev U ∧ FR fr (fun q => h0 ≤ q) U U.heap)) := fun a U gg mk hh =>
  ⟨hh.1, hh.2.1, va_K.moved (u := U) (U := U.calling gg mk a) (Vm.Alike.refl U.vm) hh.2.2.1, FR.warm (s := U) (U := U.calling gg mk a) (State.WarmedH.refl U) hh.2.2.2⟩
/-- a part starts -/
theorem ct_run {i j kc' ks' fe nL' : Nat} {y : MethodName} {bs : ByteArray} {as rest : List Value} {x : va_E} {L0 L1 : List va_E} {H : Heap} {locs : List Loc} {ms : Array Slot} (hx : p.tables.exec = Jvm.exec) (hb : c.code = cc) (hml : c.maxLocals = nL) (hown : s.vm.findClass own = some m.cls) (hts : ∀ w ∈ lwG, w.before args s = true) (hK : Kno ev s) (hF : FR fr (fun q => h0 ≤ q) s H)
    (hM : CtM l ev y bs nL' as (h + j) h0 fr fe [x] L1 kc' ks') (hd : decode cc pc = .ok (.invokespecial i, 3)) (hw : Cond.code y bs nL' none ∈ lwG ∧ Cond.initialized y.cls ∈ lwG ∧ Cond.instanceMethod y ∈ lwG) (hy : y.name = "<init>" ∧ (y.cls ≠ "java/lang/invoke/MethodHandle" ∧ y.cls ≠ "java/lang/invoke/VarHandle") ∧ (parseMethodDescriptor y.desc).map (fun d => d.parameters.length) = some as.length) (hk : Cond.methodLink own i y ∈ lwG ∨ ∃ host, va_Nw (.methodLinkNest own i y host) s)
    (hR : fe + 1 ≤ R.frames ∧ 19 + nL' + 40 * fe ≤ R.locals) (hr8 : (rest.map fun v => v.category).sum ≤ 8) (hc : kc + kc' ≤ R.cells ∧ ks + ks' ≤ R.slots) (hlj : L0.length = j) (hB : BW ev.2.1 h (L0 ++ [x]) H) (hS : va_S (fun q : Nat => h ≤ q) s.heap H locs) (hsz : ms.size = nL)
    (kk : ∀ (H1 : Heap) (locs1 : List Loc), BW ev.2.1 h (L0 ++ L1) H1 → (∀ q : Nat, q < h + j → H1[q]? = H[q]?) → va_S (fun q : Nat => h ≤ q) s.heap H1 locs1 → W p l e R s m args below meth c H1 locs1 (kc + kc') (ks + ks') Q (F0 m (pc + 3) ms rest)) : W p l e R s m args below meth c H locs kc ks Q (F0 m pc ms (as.reverse ++ .ref (h + j) :: rest)) := by
  have pre : PreS s H (va_Pc (.ref (h + j) :: as) (fun U => BW ev.2.1 (h + j) [x] U.heap ∧ Kno ev U ∧ FR fr (fun q => h0 ≤ q) U U.heap)) (.ref (h + j) :: as) := by
    refine ⟨ct_blind, fun U hU hW => ⟨rfl, ?_, va_K.moved hW.alike hK, by rw [hU]; exact FR.warm hW hF⟩⟩
    rw [hU]
    refine ⟨by rw [hB.1, List.length_append, hlj]; rfl, fun q z hz => ?_⟩
    have hq : q < 1 := (List.getElem?_eq_some_iff.mp hz).1
    rw [show q = 0 by omega] at hz ⊢
    cases hz
    exact hB.2 j _ (by rw [← hlj, List.getElem?_append_right (Nat.le_refl _), Nat.sub_self]; rfl)
  have hdesc : ∀ sig, parseMethodDescriptor y.desc = some sig → as.length = sig.parameters.length := fun sig hs => by
    have h2 := hy.2.2
    rw [hs] at h2
    exact (Option.some.inj h2).symm
  have hws : ∀ w ∈ (Cond.code y bs nL' none :: lwG), ∀ (a' : Array Value) (U : State), s.WarmedH U.vm → w.before a' U = true := fun w hw' a' U hW => by
    rcases List.mem_cons.mp hw' with rfl | hw'
    · exact word_at hW (lwG_good _ hw.1) (hts _ hw.1)
    · exact word_at hW (lwG_good _ hw') (hts _ hw')
  have hrun : va_Run p l e R s m args below meth c H locs kc ks kc' ks' (F0 m pc ms (as.reverse ++ .ref (h + j) :: rest)) rest ((fun _ st o t => o = .returned none ∧ BW ev.2.1 (h + j) L1 t.heap ∧ va_F (fun q => h + j ≤ q) st t) (Value.ref (h + j) :: as).toArray) (fun q => h + j ≤ q) := by
    rcases hk with hk | ⟨host, hk⟩
    · exact va_runI (Ts := lwG) ⟨hx, hb, hml, hown, hts⟩ hM ⟨⟨rfl, rfl, hR.1, by show 8 + (nL' + 11) + 40 * fe ≤ _; omega, hws, List.mem_cons_self, hts _ hw.1, hts _ hw.2.1, hy.2.1, hdesc, hts _ hk⟩, hy.1, hts _ hw.2.2⟩ pre rfl rfl hsz rfl (lv_room hr8) hd hc
    · exact va_runIN (Ts := lwG) ⟨hx, hb, hml, hown, hts⟩ hM ⟨⟨⟨rfl, rfl, hR.1, by show 8 + (nL' + 11) + 40 * fe ≤ _; omega, hws, List.mem_cons_self⟩, hts _ hw.1, hts _ hw.2.1, hy.2.1, hdesc, va_Nw.use rfl hk⟩, hy.1, hts _ hw.2.2⟩ pre rfl rfl hsz rfl (lv_room hr8) hd hc
  intro T hT X
  obtain ⟨v, st₀, t, T', L2, e0, X', hL, e1, e2, ⟨hv, hB1, hz, hkp⟩, stp⟩ := hrun T hT X
  cases hv
  have hH : ∀ q : Nat, q < h + j → T'.heap[q]? = H[q]? := fun q hq => by
    rw [e1, hkp q (by rw [e0, hB.1, List.length_append, hlj]; omega) (by omega), e0]
  have hsz1 : T'.heap.size = h + j + L1.length := by rw [e1]; exact hB1.1
  have hLl : 1 ≤ L1.length := by
    have := hz
    rw [e0, hB.1, hB1.1, List.length_append, hlj] at this
    have h1 : [x].length = 1 := rfl
    omega
  obtain ⟨t2, a1, b1⟩ := kk T'.heap (locs ++ L2) ⟨by rw [hsz1, List.length_append, hlj]; omega, fun q z hq => by
      rcases Nat.lt_or_ge q j with w | w
      · rw [List.getElem?_append_left (by omega)] at hq
        exact (hB.2 q z (by rw [List.getElem?_append_left (by omega)]; exact hq)).kept (hH _ (by omega))
      · rw [List.getElem?_append_right (by omega), hlj] at hq
        have := hB1.2 (q - j) z hq
        rw [show h + j + (q - j) = h + q by omega] at this
        rw [e1]
        exact this⟩ hH ⟨by have := hS.1; have := hB.1; rw [List.length_append, hlj] at this; have h1 : [x].length = 1 := rfl; omega, fun q h1 h2 => by
      rw [hH q (by omega)]
      exact hS.2.1 q h1 h2, fun q hq => by
      rcases List.mem_append.mp hq with w | w
      · exact hS.2.2 q w
      · have := hL q w; show h ≤ q.base; omega⟩ T' rfl X'
  exact ⟨t2, stp t2 a1, b1⟩
theorem c_call {i j kc' ks' fe nL' : Nat} {y : MethodName} {bs : ByteArray} {as rest : List Value} {x : va_E} {L0 L1 : List va_E} (B : BC ev own cc nL h h0 fr p s m args meth c) (hM : CtM l ev y bs nL' as (h + j) h0 fr fe [x] L1 kc' ks') (hd : decode cc pc = .ok (.invokespecial i, 3)) (hw : Cond.code y bs nL' none ∈ lwG ∧ Cond.initialized y.cls ∈ lwG ∧ Cond.instanceMethod y ∈ lwG) (hy : y.name = "<init>" ∧ (y.cls ≠ "java/lang/invoke/MethodHandle" ∧ y.cls ≠ "java/lang/invoke/VarHandle") ∧ (parseMethodDescriptor y.desc).map (fun d => d.parameters.length) = some as.length) (hk : Cond.methodLink own i y ∈ lwG ∨ ∃ host, va_Nw (.methodLinkNest own i y host) s)
    (hR : fe + 1 ≤ R.frames ∧ 19 + nL' + 40 * fe ≤ R.locals) (hr8 : (rest.map fun v => v.category).sum ≤ 8) (hc : kc + kc' ≤ R.cells ∧ ks + ks' ≤ R.slots) (hlj : L0.length = j)
    (kk : CW p l e R s m args below meth c ev nL h Q (pc + 3) lv rest (L0 ++ L1) (kc + kc') (ks + ks')) : CW p l e R s m args below meth c ev nL h Q pc lv (as.reverse ++ .ref (h + j) :: rest) (L0 ++ [x]) kc ks := fun H locs ms hB hS hl =>
  ct_run B.1 B.2.1 B.2.2.1 B.2.2.2.2.1 B.2.2.2.2.2.1 B.2.2.2.2.2.2.2.2.1 (B.2.2.2.2.2.2.2.2.2.1.kept (fun q h1 h2 => hS.2.1 q h1 (fun z => h2 (Nat.le_trans B.2.2.2.2.2.2.2.2.2.2.1 z)))) hM hd hw hy hk hR hr8 hc hlj hB hS hl.1 (fun H1 locs1 hB1 _ hS1 => kk H1 locs1 ms hB1 hS1 hl)
end BR
