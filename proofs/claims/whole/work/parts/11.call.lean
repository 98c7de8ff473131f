/-! calls, ends, switches, and the whole: a block's weakest precondition holds of the machine -/
theorem wrd_blind {g : Nat} {ev : EV} {σ : St2} {as : List Value} : FrameBlind (va_Pc as (Wrd g ev σ)) := fun a U gg mk h =>
  ⟨h.1, h.2.1, h.2.2.1, va_K.moved (u := U) (U := U.calling gg mk a) (Vm.Alike.refl U.vm) h.2.2.2.1, Ex.warm (s := U) (U := U.calling gg mk a) (State.WarmedH.refl U) h.2.2.2.2⟩
theorem cx_wrd {g : Nat} {ev : EV} {μ : Nat} {p : Program} {s : State} {m : MethodId} {args : Array Value} {meth : Method} {c : Code} {σ : St2} {H : Heap} {locs : List Loc} (C : Cx g ev μ p s m args meth c) (hH : Hld g ev σ H) (hS : va_S (Af g ev) s.heap H locs) {U : State} (hU : U.heap = H) (hW : s.WarmedH U.vm) : Wrd g ev σ U :=
  ⟨by rw [hU]; exact hH, C.2.2.2.2.2.2.2.1, va_K.moved hW.alike C.2.2.2.2.2.2.2.2.1, by rw [hU]; exact Ex.warm hW (C.2.2.2.2.2.2.2.2.2.kept hS.2.1)⟩
section NC
variable {g : Nat} {ev : EV} {μ pc : Nat} {ls st : List Value} {σ : St2} {Post : PO}
theorem w_call {p : Program} {l : Launch} {e : Env} {R : Room} {s : State} {m : MethodId} {args : Array Value} {below : List Frame} {meth : Method} {c : Code} {H : Heap} {locs : List Loc} {Q : State → Prop} {ms : Array Slot} {stk rest : List Value} {a : Array Value} {K : PO} {A0 : Nat → Prop} {cells slots : Nat}
    (hr : va_Run p l e R s m args below meth c H locs cells slots 0 0 (F0 m pc ms stk) rest (QcO g ev K a) (Af g ev)) (hS : va_S A0 s.heap H locs) (hA : ∀ q, Af g ev q → A0 q)
    (kk : ∀ (r : Option Value) (σ : St2) (t : State) (H1 : Heap) (locs1 : List Loc), t.heap = H1 → s.vm.Alike t.vm → K r σ → Wrd g ev σ t → (∀ q : Nat, q < H.size → ¬ Af g ev q → H1[q]? = H[q]?) → H.size ≤ H1.size → va_S A0 s.heap H1 locs1 → W p l e R s m args below meth c H1 locs1 cells slots Q (F0 m (pc + 3) ms ((r.map (mv ev)).toList ++ rest))) : W p l e R s m args below meth c H locs cells slots Q (F0 m pc ms stk) := by
  intro T hT X
  obtain ⟨v, st₀, t, T', L, h0, X', hL, e1, e2, ⟨⟨r, τ, hv, hp, hb⟩, hz, hk⟩, stp⟩ := hr T hT X
  cases hv
  rw [h0] at hz hk
  obtain ⟨t2, a1, b1⟩ := kk r τ t T'.heap (locs ++ L) e1.symm (by rw [← e2]; exact X'.warmed.alike) hp hb (fun q h1 h2 => by rw [e1]; exact hk q h1 h2) (by rw [e1]; exact hz)
    ⟨Nat.le_trans hS.1 (by rw [e1]; exact hz), fun q h1 h2 => by rw [e1, hk q (Nat.lt_of_lt_of_le h1 hS.1) (fun z => h2 (hA q z))]; exact hS.2.1 q h1 h2, fun q hq => by
      rcases List.mem_append.mp hq with h | h
      · exact hS.2.2 q h
      · exact hA _ (hL q h)⟩ T' rfl X'
  exact ⟨t2, stp t2 a1, b1⟩
theorem callB_m {R : Room} {s : State} {args : Array Value} {own : String} {i y : Nat} (hts : ∀ w ∈ lwG, w.before args s = true) (hy : y < 256) (hfr : mE y + 1 ≤ R.frames) (hlo : 40 * (mE y + 1) ≤ R.locals) (hl : Cond.methodLink own i (mY y) ∈ lwG) : CallB R s args own i (mY y) (mB y) (mX y) (mR y) (wsM y) (rmM y) 0 0 (if mS y then mA y else mA y - 1) := by
  obtain ⟨a1, a2, a3, a4, a5, a6⟩ := meth_a_use hy
  obtain ⟨b1, b2, b3, b4⟩ := meth_b_use hy
  refine ⟨rfl, rfl, hfr, by show 8 + (mX y + 11) + 40 * mE y ≤ R.locals; omega, ?_, List.mem_cons_self, hts _ b1, hts _ b2, a5, a3, hts _ hl⟩
  intro w hw a' U hW
  rcases List.mem_cons.mp hw with rfl | hw
  · exact word_at hW (lwG_good _ b1) (hts _ b1)
  · exact word_at hW (lwG_good _ hw) (hts _ hw)
/-- a receiver -/
theorem rcv_at {s : State} {H : Heap} {locs : List Loc} {c k : Nat} (hr : rcv g c k) (hH : Hld g ev σ H) (hK : Kno ev s) (hE : Ex g ev s s.heap) (hS : va_S (Af g ev) s.heap H locs) : ∃ cellB : Cell, H[ev.1 k]? = some cellB ∧ cellB.vm.isStatics = false ∧ s.vm.findClass (ocN c) = some cellB.cls := by
  rcases hr with ⟨h1, h2, h3⟩ | ⟨rfl, h0, h1, h2⟩
  · obtain ⟨q1, -, q3⟩ := clG_at c h3
    rw [← q3]
    exact va_recv hK hH q1 ((wld_get h1).trans (by rw [ent_o h2 h3]))
  · obtain ⟨q, hq⟩ := str_at h1 h2
    obtain ⟨cell, z1, z2, z3, -⟩ := ((hE h0).2.1 k h1 h2 q hq).2.1.kept hS.2.1
    exact ⟨cell, z1, z2, z3⟩
theorem n_callV {i n y : Nat} (hd : decode (mB μ) pc = .ok (.invokevirtual i, 3)) (hy : y < 256 ∧ Cond.methodLink (ocN (mC μ)) i (mY y) ∈ lwG) (hst : mS y = false) (hn : mA y = n) (he : mE y < mE μ) (h4 : (st.drop n).length ≤ 4) (hlen : n ≤ st.length) {K : PO} (hR : Rn g ev y (st.take n).reverse σ K) (kk : ∀ r σ, K r σ → PW g ev μ (pc + 3) ls (r.toList ++ st.drop n) σ Post) : PW g ev μ pc ls st σ Post := fun p l e s m args below meth cd H locs ms C hH hS hl => by
  obtain ⟨hr, hA, hM⟩ := hR
  obtain ⟨k, as', ea, hrc⟩ := hr hst
  obtain ⟨b1, b2, b3, b4⟩ := meth_b_use hy.1
  obtain ⟨a1, a2, a3, a4, a5, a6⟩ := meth_a_use hy.1
  have hts : ∀ w ∈ lwG, w.before args s = true := fun w hw => cx_in C hw
  have est : st = as'.reverse ++ .ref k :: st.drop n := by
    have h1 : (st.take n) = (.ref k :: as').reverse := by rw [← ea, List.reverse_reverse]
    calc st = st.take n ++ st.drop n := (List.take_append_drop n st).symm
      _ = _ := by rw [h1]; simp
  have hla : as'.length = n - 1 := by
    have h1 : ((st.take n).reverse).length = n := by simp; omega
    rw [ea] at h1
    simp at h1
    omega
  have hpos : 0 < n := by
    rcases a6 with h | h
    · rw [hst] at h; cases h
    · omega
  obtain ⟨cB, hcB⟩ := rcv_at hrc hH C.2.2.2.2.2.2.2.2.1 C.2.2.2.2.2.2.2.2.2 hS
  have hstk : st.map (mv ev) = (as'.map (mv ev)).reverse ++ .ref (ev.1 k) :: (st.drop n).map (mv ev) := by
    rw [← List.map_reverse]
    conv => lhs; rw [est]
    rw [List.map_append]
    rfl
  have hrun := va_runV (p := p) (l := l) (e := e) (R := rmM μ) (m := m) (below := below) (meth := meth) (locs := locs) (cells := 0) (slots := 0) (As := as'.map (mv ev)) (rest := (st.drop n).map (mv ev)) (b := ev.1 k) (g := F0 m pc ms (st.map (mv ev))) (H := H) ⟨C.1, C.2.1, C.2.2.2.1, C.2.2.2.2.1, hts⟩ (hM l) (C := (mY y).cls) ⟨callB_m (own := ocN (mC μ)) (i := i) hts hy.1 he (by show _ ≤ 40 * mE μ; omega) hy.2, hts _ (b4 hst).1, hts _ (b4 hst).2⟩
    ⟨wrd_blind, ⟨cB, hcB.1, hcB.2.1, by rw [a1]; exact hcB.2.2⟩, fun U hU hW => ⟨by rw [ea]; rfl, cx_wrd C hH hS hU hW⟩⟩ rfl (by rw [List.length_map, hla, hst, hn]; rfl) hl.1 hstk (by have := cat_sum ev (st.drop n) 4 h4; show 2 * 0 + _ ≤ 8; omega) hd ⟨Nat.zero_le _, Nat.zero_le _⟩
  refine w_call hrun hS (fun _ h => h) (fun r τ t H1 locs1 ht hvm hK hW hfr hsz hS1 => ?_)
  have h2 := kk r τ hK p l e s m args below meth cd H1 locs1 ms C (by rw [← ht]; exact hW.1) hS1 hl
  rw [List.map_append] at h2
  have e3 : r.toList.map (mv ev) = (r.map (mv ev)).toList := by cases r <;> rfl
  rw [e3] at h2
  exact h2
theorem n_callS {i n y : Nat} (hd : decode (mB μ) pc = .ok (.invokestatic i, 3)) (hy : y < 256 ∧ Cond.methodLink (ocN (mC μ)) i (mY y) ∈ lwG) (hst : mS y = true) (hn : mA y = n) (he : mE y < mE μ) (h4 : (st.drop n).length ≤ 4) (hlen : n ≤ st.length) {K : PO} (hR : Rn g ev y (st.take n).reverse σ K) (kk : ∀ r σ, K r σ → PW g ev μ (pc + 3) ls (r.toList ++ st.drop n) σ Post) : PW g ev μ pc ls st σ Post := fun p l e s m args below meth cd H locs ms C hH hS hl => by
  obtain ⟨hr, hA, hM⟩ := hR
  obtain ⟨b1, b2, b3, b4⟩ := meth_b_use hy.1
  obtain ⟨a1, a2, a3, a4, a5, a6⟩ := meth_a_use hy.1
  have hts : ∀ w ∈ lwG, w.before args s = true := fun w hw => cx_in C hw
  have hstk : st.map (mv ev) = ((st.take n).reverse.map (mv ev)).reverse ++ (st.drop n).map (mv ev) := by
    rw [← List.map_reverse, List.reverse_reverse, ← List.map_append, List.take_append_drop]
  have hrun := va_runS (p := p) (l := l) (e := e) (R := rmM μ) (m := m) (below := below) (meth := meth) (locs := locs) (cells := 0) (slots := 0) (As := (st.take n).reverse.map (mv ev)) (rest := (st.drop n).map (mv ev)) (g := F0 m pc ms (st.map (mv ev))) (H := H) ⟨C.1, C.2.1, C.2.2.2.1, C.2.2.2.2.1, hts⟩ (hM l) ⟨callB_m (own := ocN (mC μ)) (i := i) hts hy.1 he (by show _ ≤ 40 * mE μ; omega) hy.2, hts _ (b3 hst)⟩
    ⟨wrd_blind, fun U hU hW => ⟨rfl, cx_wrd C hH hS hU hW⟩⟩ rfl (by rw [hst, hn]; simp; omega) hl.1 hstk (by have := cat_sum ev (st.drop n) 4 h4; show 2 * 0 + _ ≤ 8; omega) hd ⟨Nat.zero_le _, Nat.zero_le _⟩
  refine w_call hrun hS (fun _ h => h) (fun r τ t H1 locs1 ht hvm hK hW hfr hsz hS1 => ?_)
  have h2 := kk r τ hK p l e s m args below meth cd H1 locs1 ms C (by rw [← ht]; exact hW.1) hS1 hl
  rw [List.map_append] at h2
  have e3 : r.toList.map (mv ev) = (r.map (mv ev)).toList := by cases r <;> rfl
  rw [e3] at h2
  exact h2
theorem n_iret {x : Int32} {ty : FieldType} (hd : decode (mB μ) pc = .ok (.ireturn, 1)) (hr : mR μ = some ty) (hn : narrow ty (.int x) = .int x) (hP : Post (some (.int x)) σ) : PW g ev μ pc ls [.int x] σ Post := fun p l e s m args below meth cd H locs ms C hH hS hl =>
  W.zret C.1 C.2.1 (C.2.2.1.trans hr) hn (fun t ht hW => ⟨⟨some (.int x), σ, rfl, hP, cx_wrd C hH hS ht hW⟩, hS.F ht⟩) hS.2.2 hd C.2.2.2.2.2.2.1
theorem n_lret {x : Int64} (hd : decode (mB μ) pc = .ok (.lreturn, 1)) (hr : mR μ = some .long) (hP : Post (some (.long x)) σ) : PW g ev μ pc ls [.long x] σ Post := fun p l e s m args below meth cd H locs ms C hH hS hl =>
  W.lret C.1 C.2.1 (C.2.2.1.trans hr) (fun t ht hW => ⟨⟨some (.long x), σ, rfl, hP, cx_wrd C hH hS ht hW⟩, hS.F ht⟩) hS.2.2 hd C.2.2.2.2.2.2.1
theorem n_vret (hd : decode (mB μ) pc = .ok (.return_, 1)) (hr : mR μ = none) (hP : Post none σ) : PW g ev μ pc ls [] σ Post := fun p l e s m args below meth cd H locs ms C hH hS hl =>
  W.vret C.1 C.2.1 (C.2.2.1.trans hr) (fun t ht hW => ⟨⟨none, σ, rfl, hP, cx_wrd C hH hS ht hW⟩, hS.F ht⟩) hS.2.2 hd C.2.2.2.2.2.2.1
theorem n_aret {x : Nat} {nm : String} (hd : decode (mB μ) pc = .ok (.areturn, 1)) (hr : mR μ = some (.object nm)) (hP : Post (some (.ref x)) σ) : PW g ev μ pc ls [.ref x] σ Post := fun p l e s m args below meth cd H locs ms C hH hS hl =>
  W.aret C.1 C.2.1 (C.2.2.1.trans hr) (Or.inl ⟨nm, rfl⟩) (Or.inr ⟨_, rfl⟩) (fun t ht hW => ⟨⟨some (.ref x), σ, rfl, hP, cx_wrd C hH hS ht hW⟩, hS.F ht⟩) hS.2.2 hd C.2.2.2.2.2.2.1
theorem n_tsw {x : Int32} {t : Nat} {dflt lo hi : Int} {offs : Array Int} {len : Nat} (hd : decode (mB μ) pc = .ok (.tableswitch dflt lo hi offs, len)) (h : ((x.toInt < lo ∨ hi < x.toInt) ∧ (pc : Int) + dflt = (t : Int)) ∨ (¬ x.toInt < lo ∧ ¬ hi < x.toInt ∧ ∃ off, offs[(x.toInt - lo).toNat]? = some off ∧ (pc : Int) + off = (t : Int))) (k : PW g ev μ t ls st σ Post) : PW g ev μ pc ls (.int x :: st) σ Post := fun p l e s m args below meth cd H locs ms C hH hS hl => by
  rcases h with ⟨h1, h2⟩ | ⟨h1, h2, off, h3, h4⟩
  · exact lv_tableOut C.1 C.2.1 hd h1 h2 (k p l e s m args below meth cd H locs ms C hH hS hl)
  · exact lv_tableIn C.1 C.2.1 hd h1 h2 h3 h4 (k p l e s m args below meth cd H locs ms C hH hS hl)
theorem n_lsw {x : Int32} {t : Nat} {dflt : Int} {ps : Array (Int × Int)} {len : Nat} {off : Int} (hd : decode (mB μ) pc = .ok (.lookupswitch dflt ps, len)) (hp : (ps.toList.zip (ps.toList.drop 1)).all (fun (a, next) => a.1 < next.1) = true) (ho : Op.lookupswitch.offset ps.toList dflt x.toInt = off) (ht : (pc : Int) + off = (t : Int)) (k : PW g ev μ t ls st σ Post) : PW g ev μ pc ls (.int x :: st) σ Post := fun p l e s m args below meth cd H locs ms C hH hS hl =>
  lv_lookup C.1 C.2.1 hd hp ho ht (k p l e s m args below meth cd H locs ms C hH hS hl)
end NC
