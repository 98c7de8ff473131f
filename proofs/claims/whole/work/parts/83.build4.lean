/-! objects being built: the chest's arrays, its rules' copy, its spots -/
theorem arrV_cong {k : ClassId} {N : Nat} {f g : Nat → Value} (h : ∀ j, j < N → f j = g j) : arrV k N f = arrV k N g := by
  have e : (fun j : Fin N => f j.val) = fun j : Fin N => g j.val := funext fun j => h j.val j.isLt
  unfold arrV
  rw [e]
theorem outer_eq (k : ClassId) (N a : Nat) : ∀ i, Jvm.Free.Multi.outerC k N a i = arrV k N (fun j => if j < i then .ref (a + 1 + j) else .null)
  | 0 => by
    show ({ cls := k, slots := Array.replicate N .null, vm := .none } : Cell) = _
    rw [arrV_new]
    exact arrV_cong (fun j _ => (if_neg (Nat.not_lt_zero j)).symm)
  | i + 1 => by
    show (Jvm.Free.Multi.outerC k N a i).setSlot i (.ref (a + 1 + i)) = _
    rw [outer_eq k N a i, arrV_store]
    refine arrV_cong (fun j _ => ?_)
    unfold updV
    by_cases e : j = i
    · subst e
      rw [if_pos rfl, if_pos (Nat.lt_succ_self j)]
    · rw [if_neg e]
      by_cases e2 : j < i
      · exact (if_pos e2).trans (if_pos (show j < i + 1 by omega)).symm
      · exact (if_neg e2).trans (if_neg (show ¬ j < i + 1 by omega)).symm
section BR
variable {p : Program} {l : Launch} {e : Env} {R : Room} {s : State} {m : MethodId} {args : Array Value} {below : List Frame} {meth : Method} {c : Code} {ev : EV} {own : String} {cc : ByteArray} {nL h h0 fr : Nat} {Q : State → Prop} {pc : Nat} {lv : List (Nat × Value)} {st : List Value} {L : List va_E} {kc ks : Nat}
theorem c_gsF {i : Nat} (B : BC ev own cc nL h h0 fr p s m args meth c) (hd : decode cc pc = .ok (.getstatic i, 3)) (hw : Cond.fieldLink own i RX0 "FIRST_RULE" "[I" ∈ lwG) (kk : CW p l e R s m args below meth c ev nL h Q (pc + 3) lv (.ref fr :: st) L kc ks) : CW p l e R s m args below meth c ev nL h Q pc lv st L kc ks := fun H locs ms hB hS hl =>
  va_gets B.1 B.2.1 B.2.2.2.2.2.2.2.2.2.1.1.1 (vaS_w hS (fun q z => Nat.le_trans B.2.2.2.2.2.2.2.2.2.2.1 z)) B.2.2.2.2.1 (B.2.2.2.2.2.1 _ hw) (fun _ h => h) hd (kk H locs ms hB hS hl)
theorem c_acopy {i j : Nat} {f : Nat → Int32} (B : BC ev own cc nL h h0 fr p s m args meth c) (hd : decode cc pc = .ok (.invokestatic i, 3)) (hw : Cond.methodLink own i arraycopyName ∈ lwG ∧ Cond.native arraycopyName ∈ lwG ∧ Cond.static arraycopyName ∈ lwG ∧ Cond.initialized "java/lang/System" ∈ lwG) (hj : L[j]? = some (.inl (ev.2.2 100, 5, .inl f))) (hR : 1 ≤ R.frames ∧ 40 ≤ R.locals)
    (kk : CW p l e R s m args below meth c ev nL h Q (pc + 3) lv [] (L.set j (.inl (ev.2.2 100, 5, .inl (va_cpy (cst 204) f 0 0 5)))) kc ks) : CW p l e R s m args below meth c ev nL h Q pc lv [.int 5, .int 0, .ref (h + j), .int 0, .ref fr] L kc ks := fun H locs ms hB hS hl => by
  have hts := B.2.2.2.2.2.1
  obtain ⟨scr, hs1, hs2, hs3, hs4, -, hs5, hs6⟩ := B.2.2.2.2.2.2.2.2.2.1.1.2
  have hh0 := B.2.2.2.2.2.2.2.2.2.2.1
  intro T hT X
  have hc0 : H[fr]? = some scr := by rw [hS.2.1 fr (Array.getElem?_eq_some_iff.mp hs1).1 (fun z => hs6 (Nat.le_trans hh0 z))]; exact hs1
  have hc1 : H[h + j]? = some (vp_cell (ev.2.2 100) (5, .inl f)) := hB.2 j _ hj
  obtain ⟨hs7, k0, hk0, cm0, hkk0⟩ := hs2
  obtain ⟨-, k1, hk1, cm1, hkk1⟩ := (B.2.2.2.2.2.2.2.2.1.2 0 (ev.2.2 100, .int) rfl).1 5 (fun j => .int (f j))
  obtain ⟨vm', X', step⟩ := X.arraycopy B.1 B.2.2.2.2.1 (hts _ hw.1) (hts _ hw.2.1) (hts _ hw.2.2.1) (hts _ hw.2.2.2) (src := fr) (dst := h + j) (cs := scr) (cd := vp_cell (ev.2.2 100) (5, .inl f)) (srcPos := 0) (destPos := 0) (n := 5) (by rw [hT]; exact hc0) (by rw [hT]; exact hc1)
    hs7 (fun _ h => by cases h) hs3 (fun h => by cases h) hk0 hk1 hkk0 hkk1 (by simp [refKind]) (by decide) (by decide) (by decide)
    (by rw [show (0 : Int32).toInt + (5 : Int32).toInt = 5 by decide]; omega)
    (by show ¬ _ > ((arrV (ev.2.2 100) 5 (fun j => .int (f j))).slots.size : Int); rw [arrV_size, show (0 : Int32).toInt + (5 : Int32).toInt = 5 by decide]; decide)
    (fun vm₁ _ i hi => by
      have hi5 : i < 5 := hi
      have ez : (0 : Int32).toNatClampNeg + i = i := by rw [show (0 : Int32).toNatClampNeg = 0 by decide, Nat.zero_add]
      have e : scr.slots.getD ((0 : Int32).toNatClampNeg + i) .null = .int (cst 204 i) := by
        rw [ez, Array.getD_eq_getD_getElem?, hs5 _ hi5]
        rfl
      refine ⟨?_, ?_⟩
      · rw [e]
        rfl
      · rw [e]
        exact trivial)
    (g := F0 m pc ms [.int 5, .int 0, .ref (h + j), .int 0, .ref fr]) rfl (by rw [B.2.2.1]; exact hl.1) (rest := []) rfl (by rw [B.2.1]; exact hd) hR.1 (by rw [show nativeFrameWords "java/lang/System" "arraycopy" 5 = 7 by decide +kernel]; show 2 * 0 + 0 + (7 + 11) ≤ R.locals; omega)
  have e1 : copied scr (vp_cell (ev.2.2 100) (5, .inl f)) 0 0 5 = vp_cell (ev.2.2 100) (5, .inl (va_cpy (cst 204) f 0 0 5)) := va_copiedX (n0 := 5) (sp := 0) (dp := 0) (n := 5) (fun z => .int z) scr (ev.2.2 100) (cst 204) f hs5 (by decide)
  rw [e1] at X' step
  have hl2 : h + j < H.size := (Array.getElem?_eq_some_iff.mp hc1).1
  have hheap : ((T.setVm vm').setCell (h + j) (vp_cell (ev.2.2 100) (5, .inl (va_cpy (cst 204) f 0 0 5)))).heap = H.setIfInBounds (h + j) (vp_cell (ev.2.2 100) (5, .inl (va_cpy (cst 204) f 0 0 5))) := by rw [← hT]; rfl
  have oq : ∀ q : Nat, q ≠ h + j → (H.setIfInBounds (h + j) (vp_cell (ev.2.2 100) (5, .inl (va_cpy (cst 204) f 0 0 5))))[q]? = H[q]? := fun q hq => by simp [Array.getElem?_setIfInBounds, Ne.symm hq]
  obtain ⟨t, a1, b1⟩ := kk _ _ ms (BW_set hB hj oq (by simp) (show (H.setIfInBounds (h + j) _)[h + j]? = some _ by simp [Array.getElem?_setIfInBounds, hl2])) ⟨by simp; exact hS.1, fun q g1 g2 => by
      rw [oq q (fun e => g2 (by rw [e]; exact Nat.le_add_right h j))]
      exact hS.2.1 q g1 g2, fun q hq => by
      rcases List.mem_append.mp hq with w | w
      · exact hS.2.2 q w
      · obtain ⟨z, -, hz⟩ := List.mem_map.mp w
        rw [← hz]
        exact Nat.le_add_right h j⟩ hl _ hheap X'
  exact ⟨t, step t a1, b1⟩
theorem c_multi {i : Nat} (B : BC ev own cc nL h h0 fr p s m args meth c) (hd : decode cc pc = .ok (.multianewarray i 2, 4)) (hw : Cond.classLink own i "[[I" ∈ lwG) (hc : kc + 11 ≤ R.cells) (hs : ks + 110 ≤ R.slots)
    (kk : CW p l e R s m args below meth c ev nL h Q (pc + 4) lv (.ref (h + L.length) :: st) (L ++ (rfE 10 102 ev (fun j => some (h + L.length + 1 + j)) :: List.replicate 10 (.inl (ev.2.2 100, 10, .inl (fun _ => 0))))) (kc + 11) (ks + 110)) : CW p l e R s m args below meth c ev nL h Q pc lv (.int 10 :: .int 10 :: st) L kc ks := fun H locs ms hB hS hl => by
  have hts := B.2.2.2.2.2.1
  have hK := B.2.2.2.2.2.2.2.2.1
  have en : ("[" ++ (FieldType.array .int).toString) = "[[I" := by decide +kernel
  have e10 : (10 : Int32).toNatClampNeg = 10 := by decide
  intro T hT X
  obtain ⟨vm₁, cA, comp, hW, hfA, hfC, -, -, X1, step⟩ := X.multianewarray2F B.1 (own := own) (index := i) (ty := .int) B.2.2.2.2.1 (by rw [en]; exact hts _ hw) (AI.use B.2.2.2.2.2.2.2.2.2.1.2.2.2.1) (hts _ aci) (g := F0 m pc ms (.int 10 :: .int 10 :: st)) rfl (by rw [B.2.1]; exact hd) (n := 10) (k := 10) (rest := st) rfl (by decide) (by decide) (by rw [e10]; decide) (by rw [e10]; decide) (by rw [e10]; decide) rfl rfl (by rw [e10]; exact hc) (by rw [e10]; exact hs)
  rw [e10] at X1 step
  have eA : cA = ev.2.2 102 := Option.some.inj (hfA.symm.trans (hK.2 2 (ev.2.2 102, .array .int) rfl).2)
  have eC : comp = ev.2.2 100 := Option.some.inj (hfC.symm.trans (hK.2 0 (ev.2.2 100, .int) rfl).2)
  subst eA; subst eC
  have hT1 : (T.setVm vm₁).heap = H := hT
  obtain ⟨f1, f2, -, -⟩ := Jvm.Free.Multi.fill_facts (T.setVm vm₁) (ev.2.2 102) (ev.2.2 100) 10 10 (defaultValue .int) 10
  have f3 := fun (a : Nat) (ha : a < H.size) => Jvm.Free.Multi.fill_old (T.setVm vm₁) (ev.2.2 102) (ev.2.2 100) 10 10 (defaultValue .int) (a := a) (by rw [hT1]; exact ha) 10
  have f4 := fun (j : Nat) (hj : j < 10) => Jvm.Free.Multi.fill_inner (T.setVm vm₁) (ev.2.2 102) (ev.2.2 100) 10 10 (defaultValue .int) 10 j hj
  rw [hT1] at f1 f2 f3 f4
  generalize hfill : Jvm.Free.Multi.fill (T.setVm vm₁) (ev.2.2 102) (ev.2.2 100) 10 10 (defaultValue .int) 10 = T1 at *
  have hO : Jvm.Free.Multi.outerC (ev.2.2 102) 10 H.size 10 = arrV (ev.2.2 102) 10 (fun j => .ref (H.size + 1 + j)) := (outer_eq _ _ _ _).trans (arrV_cong (fun j hj => if_pos hj))
  have hHs : H.size = h + L.length := hB.1
  obtain ⟨t, a1, b1⟩ := kk T1.heap locs ms ⟨by rw [f1, hHs, List.length_append, List.length_cons, List.length_replicate]; omega, fun q x hx => by
      rcases Nat.lt_or_ge q L.length with z | z
      · rw [List.getElem?_append_left z] at hx
        exact (hB.2 q x hx).kept (f3 _ (by omega))
      · rw [List.getElem?_append_right z] at hx
        obtain ⟨w, rfl⟩ : ∃ w, q = L.length + w := ⟨q - L.length, by omega⟩
        rw [Nat.add_sub_cancel_left] at hx
        match w, hx with
        | 0, hx =>
          cases hx
          show T1.heap[h + (L.length + 0)]? = some (vp_cell _ _)
          rw [Nat.add_zero, ← hHs, f2, hO, hHs]
          rfl
        | w + 1, hx =>
          rw [List.getElem?_cons_succ] at hx
          have hw10 : w < 10 := by
            have := (List.getElem?_eq_some_iff.mp hx).1
            rw [List.length_replicate] at this
            exact this
          rw [List.getElem?_replicate, if_pos hw10] at hx
          cases hx
          show T1.heap[h + (L.length + (w + 1))]? = some (vp_cell _ _)
          rw [show h + (L.length + (w + 1)) = H.size + 1 + w by omega, f4 w hw10]
          exact congrArg some (arrV_new _ _ _)⟩ ⟨by have := hS.1; omega, fun q h1 h2 => by rw [f3 q (Nat.lt_of_lt_of_le h1 hS.1)]; exact hS.2.1 q h1 h2, hS.2.2⟩ hl T1 rfl (by rw [show kc + 11 = kc + 1 + 10 by omega, show ks + 110 = ks + 10 + 10 * 10 by omega]; exact X1)
  rw [← hHs, ← hT] at a1
  exact ⟨t, step t a1, b1⟩
end BR
