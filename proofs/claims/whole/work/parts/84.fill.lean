/-! objects being built: an array is filled -/
section FL
variable {ev : EV}
theorem d_fill : decode (mB mJA_fill) 0 = .ok (.iconst 0, 1) ∧ decode (mB mJA_fill) 1 = .ok (.istore_n 2, 1) ∧ decode (mB mJA_fill) 2 = .ok (.aload_n 0, 1) ∧ decode (mB mJA_fill) 3 = .ok (.arraylength, 1) ∧ decode (mB mJA_fill) 4 = .ok (.istore_n 3, 1) := by decide +kernel
theorem d_fill2 : decode (mB mJA_fill) 5 = .ok (.iload_n 2, 1) ∧ decode (mB mJA_fill) 6 = .ok (.iload_n 3, 1) ∧ decode (mB mJA_fill) 7 = .ok (.if_icmp .ge 13, 3) ∧ decode (mB mJA_fill) 10 = .ok (.aload_n 0, 1) ∧ decode (mB mJA_fill) 11 = .ok (.iload_n 2, 1) ∧ decode (mB mJA_fill) 12 = .ok (.iload_n 1, 1) ∧ decode (mB mJA_fill) 13 = .ok (.iastore, 1) ∧ decode (mB mJA_fill) 14 = .ok (.iinc 2 1, 3) ∧ decode (mB mJA_fill) 17 = .ok (.goto (-12), 3) ∧ decode (mB mJA_fill) 20 = .ok (.return_, 1) := by decide +kernel
theorem fill_met (l : Launch) {a N : Nat} {v : Int32} {f : Nat → Int32} (hN : N ≤ 2000) : Met l (mY mJA_fill) (wsM mJA_fill) (rmM mJA_fill) (va_Pc [.ref a, .int v] (fun U => U.heap[a]? = some (arrV (ev.2.2 100) N (fun j => .int (f j))) ∧ Kno ev U)) (fun _ st o t => o = .returned none ∧ t.heap[a]? = some (arrV (ev.2.2 100) N (fun _ => .int v)) ∧ t.heap.size = st.heap.size ∧ ∀ q : Nat, q ≠ a → t.heap[q]? = st.heap[q]?) 0 0 (fun q => q = a) := by
  refine Met.ofW (cc := mB mJA_fill) (maxL := mX mJA_fill) (ret := mR mJA_fill) (by decide) rfl ?_
  intro p e s m args below meth c s₁ B hml hv
  obtain ⟨rfl, hc0, hK⟩ := hv
  have hx := B.exec
  have hb := B.bytes
  have hr := B.returns
  have hlk := B.notSynchronized
  have hAr := fun g : Nat → Int32 => (hK.2 0 (ev.2.2 100, .int) rfl).1 N (fun j => .int (g j))
  obtain ⟨d0, d1, d2, d3, d4⟩ := d_fill
  obtain ⟨d5, d6, d7, d10, d11, d12, d13, d14, d17, d20⟩ := d_fill2
  have hl := lv_entry ([.ref a, .int v]) (n := mX mJA_fill) (Nat.le_of_ble_eq_true rfl)
  rw [lg_entry_eq]
  generalize (lg_sl ([.ref a, .int v]) ++ List.replicate (mX mJA_fill - (lg_sl ([.ref a, .int v])).length) Slot.unset).toArray = ls at hl ⊢
  have hl : lv_has ls 4 [(0, .ref a), (1, .int v)] := hl
  refine lv_iconst (v := 0) hx hb d0 (by decide) ?_
  refine lv_istore_n (lv' := [(2, .int 0), (0, .ref a), (1, .int v)]) hx hb d1 rfl hl (by decide) rfl (fun ls hl => ?_)
  refine lv_aload_n hx hb d2 rfl (lv_at hl 1 rfl) ?_
  refine W.alen (n := nI N) hx hb hc0 (hAr f) (by rw [arrV_size]; rfl) rfl rfl d3 ?_
  refine lv_istore_n (lv' := [(3, .int (nI N)), (2, .int 0), (0, .ref a), (1, .int v)]) hx hb d4 rfl hl (by decide) rfl (fun ls hl => ?_)
  have key : ∀ k i : Nat, i + k = N → ∀ (H : Heap) (locs : List Loc) (ls : Array Slot) (g : Nat → Int32), H[a]? = some (arrV (ev.2.2 100) N (fun j => .int (g j))) → (∀ j, j < i → g j = v) → H.size = s.heap.size → (∀ q : Nat, q ≠ a → H[q]? = s.heap[q]?) → (∀ q ∈ locs, q.base = a) → lv_has ls 4 [(3, .int (nI N)), (2, .int (nI i)), (0, .ref a), (1, .int v)] →
      W p l e (headSpec (wsM mJA_fill) (rmM mJA_fill)).room s m #[.ref a, .int v] below meth c H locs 0 0 (MQ below (fun _ st o t => o = .returned none ∧ t.heap[a]? = some (arrV (ev.2.2 100) N (fun _ => .int v)) ∧ t.heap.size = st.heap.size ∧ ∀ q : Nat, q ≠ a → t.heap[q]? = st.heap[q]?) #[.ref a, .int v] s 0 0 (fun q => q = a)) (F0 m 5 ls []) := by
    intro k
    induction k with
    | zero =>
      intro i hi H locs ls g h1 h2 h3 h4 h5 hl
      have ei : i = N := by omega
      subst ei
      refine lv_iload_n hx hb d5 rfl (lv_at hl 1 rfl) ?_
      refine lv_iload_n hx hb d6 rfl (lv_at hl 0 rfl) ?_
      refine lv_icmp_ge (tgt := 20) hx hb d7 (by decide) (fun _ => ?_) (fun z => absurd (Int32.le_refl _) z)
      exact W.vret hx hb hr (fun t ht hW => ⟨rfl, by rw [ht, h1]; exact congrArg some (arrV_cong (fun j hj => by rw [h2 j hj])), by rw [ht]; exact h3, fun q hq => by rw [ht]; exact h4 q hq⟩) h5 d20
    | succ k ih =>
      intro i hi H locs ls g h1 h2 h3 h4 h5 hl
      refine lv_iload_n hx hb d5 rfl (lv_at hl 1 rfl) ?_
      refine lv_iload_n hx hb d6 rfl (lv_at hl 0 rfl) ?_
      refine lv_icmp_ge (tgt := 20) hx hb d7 (by decide) (fun z => absurd z (nI_ge (by omega) (by omega))) (fun _ => ?_)
      refine lv_aload_n hx hb d10 rfl (lv_at hl 2 rfl) ?_
      refine lv_iload_n hx hb d11 rfl (lv_at hl 1 rfl) ?_
      refine lv_iload_n hx hb d12 rfl (lv_at hl 3 rfl) ?_
      refine W.iast hx hb h1 (hAr g) (fun q => by cases q) (by rw [arrV_size]; exact vp_in_nI (show i < N by omega) (by omega)) rfl rfl d13 fun H1 e1 z oq => ?_
      rw [arrV_store, nI_clamp (by omega)] at e1
      refine lv_iinc (v := nI (i + 1)) (lv' := [(2, .int (nI (i + 1))), (3, .int (nI N)), (0, .ref a), (1, .int v)]) hx hb d14 hl (k := 1) rfl (nI_1 i) (by decide) rfl (fun ls' hl' => ?_)
      refine lv_goto (tgt := 5) hx hb d17 (by show ((17 : Nat) : Int) + -12 = ((5 : Nat) : Int); decide) ?_
      refine ih (i + 1) (by omega) H1 _ ls' (upd g i v) (by rw [e1]; exact congrArg some (arrV_cong (fun j hj => by
        by_cases hq : j = i
        · subst hq; simp [updV, upd]
        · simp [updV, upd, hq]))) (fun j hj => ?_) (z.trans h3) (fun q hq => (oq q hq).trans (h4 q hq)) (fun q hq => ?_) (lv_sub hl' [1, 0, 2, 3] rfl)
      · rw [updI]
        by_cases hq : j = i
        · rw [if_pos hq]
        · rw [if_neg hq]; exact h2 j (by omega)
      · rcases List.mem_append.mp hq with w | w
        · exact h5 q w
        · rw [List.mem_singleton.mp w]
  exact key N 0 (by omega) s.heap [] ls f hc0 (fun j hj => absurd hj (Nat.not_lt_zero j)) rfl (fun _ _ => rfl) (fun q hq => by cases hq) hl
end FL
section BR
variable {p : Program} {l : Launch} {e : Env} {R : Room} {s : State} {m : MethodId} {args : Array Value} {below : List Frame} {meth : Method} {c : Code} {ev : EV} {own : String} {cc : ByteArray} {nL h h0 fr : Nat} {Q : State → Prop} {pc : Nat} {lv : List (Nat × Value)} {st : List Value} {L : List va_E} {kc ks : Nat}
theorem c_fill {i j N : Nat} {v : Int32} {f : Nat → Int32} (B : BC ev own cc nL h h0 fr p s m args meth c) (hd : decode cc pc = .ok (.invokestatic i, 3)) (hw : Cond.methodLink own i (mY mJA_fill) ∈ lwG) (hj : L[j]? = some (.inl (ev.2.2 100, N, .inl f))) (hN : N ≤ 2000) (hR : 1 ≤ R.frames ∧ 40 ≤ R.locals)
    (kk : CW p l e R s m args below meth c ev nL h Q (pc + 3) lv [] (L.set j (.inl (ev.2.2 100, N, .inl (fun _ => v)))) kc ks) (hc : kc ≤ R.cells ∧ ks ≤ R.slots) : CW p l e R s m args below meth c ev nL h Q pc lv [.int v, .ref (h + j)] L kc ks := fun H locs ms hB hS hl => by
  have hts := B.2.2.2.2.2.1
  have hK := B.2.2.2.2.2.2.2.2.1
  obtain ⟨b1, b2, b3, b4⟩ := meth_b_use (show mJA_fill < 256 by decide)
  have hrun := va_runS (p := p) (l := l) (e := e) (R := R) (m := m) (below := below) (meth := meth) (locs := locs) (cells := kc) (slots := ks) (As := [.ref (h + j), .int v]) (rest := []) (g := F0 m pc ms [.int v, .ref (h + j)]) (H := H) ⟨B.1, B.2.1, B.2.2.1, B.2.2.2.2.1, hts⟩ (fill_met (ev := ev) l (a := h + j) (v := v) (f := f) hN) ⟨callB_m (own := own) (i := i) hts (show mJA_fill < 256 by decide) (by show 0 + 1 ≤ _; omega) (by show 40 * (0 + 1) ≤ _; omega) hw, hts _ (b3 rfl)⟩
    ⟨fun a U gg mk hh => ⟨hh.1, hh.2.1, va_K.moved (u := U) (U := U.calling gg mk a) (Vm.Alike.refl U.vm) hh.2.2⟩, fun U hU hW => ⟨rfl, by rw [hU]; exact hB.2 j _ hj, va_K.moved hW.alike hK⟩⟩ rfl rfl hl.1 rfl (Nat.zero_le _) hd ⟨hc.1, hc.2⟩
  intro T hT X
  obtain ⟨v', st₀, t, T', L2, e0, X', hL, e1, e2, ⟨hv, hc1, hz, hkp⟩, stp⟩ := hrun T hT X
  cases hv
  rw [e0] at hz hkp
  obtain ⟨t2, a1, b1⟩ := kk T'.heap (locs ++ L2) ms (BW_set hB hj (fun q hq => by rw [e1]; exact hkp q hq) (by rw [e1]; exact hz) (by show T'.heap[h + j]? = some (vp_cell _ _); rw [e1, hc1]; rfl)) ⟨by rw [e1, hz]; exact hS.1, fun q h1 h2 => by rw [e1, hkp q (fun z => h2 (by rw [z]; exact Nat.le_add_right h j))]; exact hS.2.1 q h1 h2, fun q hq => by
      rcases List.mem_append.mp hq with w | w
      · exact hS.2.2 q w
      · rw [hL q w]; exact Nat.le_add_right h j⟩ hl T' rfl X'
  exact ⟨t2, stp t2 a1, b1⟩
end BR
