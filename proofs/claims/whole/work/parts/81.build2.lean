/-! objects being built: fields and elements are set -/
section BR
variable {p : Program} {l : Launch} {e : Env} {R : Room} {s : State} {m : MethodId} {args : Array Value} {below : List Frame} {meth : Method} {c : Code} {ev : EV} {own : String} {cc : ByteArray} {nL h h0 fr : Nat} {Q : State → Prop} {pc : Nat} {lv : List (Nat × Value)} {st : List Value} {L : List va_E} {kc ks : Nat}
theorem c_get {ci i j k : Nat} {fs : List Value} {v : Value} (B : BC ev own cc nL h h0 fr p s m args meth c) (hd : decode cc pc = .ok (.getfield i, 3)) (hj : L[j]? = some (.inr (ci, fs))) (hci : ci < 7) (hk : k < cN ci) (hw : Cond.fieldLink own i ((clG ci).2.1 k).1 ((clG ci).2.1 k).2.1 ((clG ci).2.1 k).2.2.1 ∈ lwG) (hv : fs[k]? = some v)
    (kk : CW p l e R s m args below meth c ev nL h Q (pc + 3) lv (v :: st) L kc ks) : CW p l e R s m args below meth c ev nL h Q pc lv (.ref (h + j) :: st) L kc ks := fun H locs ms hB hS hl => by
  obtain ⟨q1, q2, q3⟩ := clG_at ci hci
  refine va_get (D := ev.2.1) (cl := cls7) (tys := tysG ev) (ws := [(h + j, .inr (ci, fs))]) B.1 B.2.1 B.2.2.2.2.2.1 (inG ci hci) B.2.2.2.2.1 B.2.2.2.2.2.2.2.2.1 (fun q x hx => ?_) 0 rfl q1 k (by rw [q2]; exact hk) (B.2.2.2.2.2.1 _ hw) (fun _ h9 => h9) hv hd (kk H locs ms hB hS hl)
  have hz : q < 1 := (List.getElem?_eq_some_iff.mp hx).1
  rw [show q = 0 by omega] at hx
  cases hx
  exact hB.2 j _ hj
theorem c_put {ci i j k : Nat} {fs : List Value} {v : Value} {ty : FieldType} (B : BC ev own cc nL h h0 fr p s m args meth c) (hd : decode cc pc = .ok (.putfield i, 3)) (hj : L[j]? = some (.inr (ci, fs))) (hci : ci < 7) (hk : k < cN ci) (hown : own = ((clG ci).2.1 k).1) (hw : Cond.fieldLink own i ((clG ci).2.1 k).1 ((clG ci).2.1 k).2.1 ((clG ci).2.1 k).2.2.1 ∈ lwG)
    (hty : parseFieldDescriptor ((clG ci).2.1 k).2.2.1 = some ty) (hn : narrow ty v = v) (hfit : fits ty v = true) (hlen : k < fs.length)
    (kk : CW p l e R s m args below meth c ev nL h Q (pc + 3) lv st (L.set j (.inr (ci, fs.set k v))) kc ks) : CW p l e R s m args below meth c ev nL h Q pc lv (v :: .ref (h + j) :: st) L kc ks := fun H locs ms hB hS hl => by
  obtain ⟨w1, w2, w3⟩ := clG_at ci hci
  have hts := B.2.2.2.2.2.1
  have hK := B.2.2.2.2.2.2.2.2.1
  have hin := inG ci hci
  have hap := va_apart (own := own) hts hin (tyG ci) (tyG_ok ci hci) (nmG ci hci) hK w1
  obtain ⟨r, h1, cell, q1, q2, q3, q4⟩ := hB.2 j _ hj
  have hr : r = clG ci := Option.some.inj (h1.symm.trans w1)
  subst hr
  obtain ⟨hSl, hfc, kC, hkC, hkind⟩ := hK.1 ci _ w1
  have hk' : k < (clG ci).2.2 := by rw [w2]; exact hk
  obtain ⟨cf, kf, fi, f, hi, hsl⟩ := hSl k hk'
  have hlay := hts _ (hin _ (u_in_lay hk'))
  have hst := (u_facts hfc hkC (u_lays hts hin hk') hi).1
  have fin : ∀ (H' : Heap) (x : Nat), H'[h + j]? = some (cell.setSlot (ev.2.1.2 ci k) v) → H'.size = H.size → (∀ q, q ≠ h + j → H'[q]? = H[q]?) → W p l e R s m args below meth c H' (locs ++ [⟨h + j, x⟩]) kc ks Q (F0 m (pc + 3) ms st) := fun H' x e1 e2 e3 =>
    kk H' _ ms (BW_set hB hj e3 e2 ⟨_, w1, t_OB.to (V := updV (vp_V fs) k v) ⟨_, e1, q2, q3, t_set q4 hap hk' v⟩ (fun j _ => vp_updV_set hlen v j)⟩) (hS.put e2 e3 (Nat.le_add_right h j)) hl
  by_cases hfn : ((clG ci).2.1 k).2.2.2 = true
  · unfold u_lay at hlay
    rw [if_pos hfn] at hlay
    have hcf : m.cls = cf := by
      obtain ⟨_, _, c', _, _, _, -, -, hf', -, -, -, hown2, -⟩ := Cond.laysFinal_spec hlay
      have e1 : c' = cf := by have := hi.symm.trans hf'; simp at this; exact this.1.symm
      rw [← hown] at hown2
      rw [← e1]; exact Option.some.inj (B.2.2.2.2.1.symm.trans hown2)
    have h6 := u_fits hfc hkC hkind (Or.inr hlay) hi hty hn hfit
    refine W.putFinK B.1 B.2.1 B.2.2.2.2.1 (hts _ hw) hi hst hcf B.2.2.2.2.2.2.2.1 (by rw [q2]; exact h6) q1 q3 (by rw [hsl]; exact k2_hasslot (q4 k hk')) rfl rfl hd fun H' e1 e2 e3 => ?_
    rw [hsl] at e1 ⊢
    exact fin H' _ e1 e2 e3
  · unfold u_lay at hlay
    rw [if_neg hfn] at hlay
    have h6 := u_store hfc hkC hkind hlay hi hty hn hfit
    refine W.putK B.1 B.2.1 (f := f) ⟨B.2.2.2.2.1, hts _ hw, ⟨_, _, _, hi⟩, hst⟩ (by rw [q2]; exact h6) q1 q3 (by rw [hsl]; exact k2_hasslot (q4 k hk')) rfl rfl hd fun H' e1 e2 e3 => ?_
    rw [hsl] at e1 ⊢
    exact fin H' _ e1 e2 e3
theorem c_iast {j N i : Nat} {x : Int32} {f : Nat → Int32} (B : BC ev own cc nL h h0 fr p s m args meth c) (hd : decode cc pc = .ok (.iastore, 1)) (hj : L[j]? = some (.inl (ev.2.2 100, N, .inl f))) (hi : i < N) (hN : N ≤ 2000)
    (kk : CW p l e R s m args below meth c ev nL h Q (pc + 1) lv st (L.set j (.inl (ev.2.2 100, N, .inl (upd f i x)))) kc ks) : CW p l e R s m args below meth c ev nL h Q pc lv (.int x :: .int (nI i) :: .ref (h + j) :: st) L kc ks := fun H locs ms hB hS hl => by
  refine W.iast B.1 B.2.1 (hB.2 j _ hj) ((B.2.2.2.2.2.2.2.2.1.2 0 (ev.2.2 100, .int) rfl).1 N (fun j => .int (f j))) (fun q => by cases q) (by show ¬ (nI i < 0 ∨ (arrV _ _ _).slots.size ≤ _); rw [arrV_size]; exact vp_in_nI hi (show N < 2147483648 by omega)) rfl rfl hd fun H1 e z oq => ?_
  refine kk H1 _ ms (BW_set hB hj oq z ?_) (hS.put z oq (Nat.le_add_right h j)) hl
  show H1[h + j]? = some (vp_cell _ _)
  rw [e, vp_cell_i, vp_cell_i, arrV_store, nI_clamp (by omega)]
  congr 2
  funext q
  by_cases hq : q = i
  · subst hq
    simp [updV, upd]
  · simp [updV, upd, hq]
theorem c_cast {j N i : Nat} {x : Int32} {f : Nat → Int32} (B : BC ev own cc nL h h0 fr p s m args meth c) (hd : decode cc pc = .ok (.castore, 1)) (hj : L[j]? = some (.inl (ev.2.2 101, N, .inl f))) (hi : i < N) (hN : N ≤ 2000)
    (kk : CW p l e R s m args below meth c ev nL h Q (pc + 1) lv st (L.set j (.inl (ev.2.2 101, N, .inl (upd f i (vp_nar .char x))))) kc ks) : CW p l e R s m args below meth c ev nL h Q pc lv (.int x :: .int (nI i) :: .ref (h + j) :: st) L kc ks := fun H locs ms hB hS hl => by
  refine W.cast B.1 B.2.1 (hB.2 j _ hj) ((B.2.2.2.2.2.2.2.2.1.2 1 (ev.2.2 101, .char) rfl).1 N (fun j => .int (f j))) (fun q => by cases q) (by show ¬ (nI i < 0 ∨ (arrV _ _ _).slots.size ≤ _); rw [arrV_size]; exact vp_in_nI hi (show N < 2147483648 by omega)) rfl rfl hd fun H1 e z oq => ?_
  refine kk H1 _ ms (BW_set hB hj oq z ?_) (hS.put z oq (Nat.le_add_right h j)) hl
  show H1[h + j]? = some (vp_cell _ _)
  rw [e, vp_cell_i, vp_cell_i, arrV_store, nI_clamp (by omega)]
  congr 2
  funext q
  by_cases hq : q = i
  · subst hq
    simp [updV, upd, vp_nar]
    try rfl
  · simp [updV, upd, hq]
/-- Object's own start -/
theorem c_obj {i x : Nat} (B : BC ev own cc nL h h0 fr p s m args meth c) (hd : decode cc pc = .ok (.invokespecial i, 3)) (hw : Cond.methodLink own i objectInit ∈ lwG ∧ Cond.instanceMethod objectInit ∈ lwG ∧ Cond.code objectInit ⟨#[0xb1]⟩ 1 none ∈ lwG) (hR : 1 ≤ R.frames ∧ 40 ≤ R.locals)
    (kk : CW p l e R s m args below meth c ev nL h Q (pc + 3) lv [] L kc ks) : CW p l e R s m args below meth c ev nL h Q pc lv [.ref x] L kc ks := fun H locs ms hB hS hl =>
  W.objInit B.1 B.2.1 B.2.2.2.2.1 (B.2.2.2.2.2.1 _ hw.1) (B.2.2.2.2.2.1 _ hw.2.1) (B.2.2.2.2.2.1 _ hw.2.2) rfl (by rw [B.2.2.1]; exact hl.1) rfl hd hR.1 (by show 2 * 0 + 0 + 12 ≤ R.locals; omega) (kk H locs ms hB hS hl)
/-- the end -/
theorem c_ret {L1 : List va_E} (B : BC ev own cc nL h h0 fr p s m args meth c) (hd : decode cc pc = .ok (.return_, 1)) (hL : L = L1) : CW p l e R s m args below meth c ev nL h (MQ below (fun _ st o t => o = .returned none ∧ BW ev.2.1 h L1 t.heap ∧ va_F (fun q => h ≤ q) st t) args s kc ks (fun q => h ≤ q)) pc lv [] L kc ks := fun H locs ms hB hS hl => by
  subst hL
  exact W.vret B.1 B.2.1 B.2.2.2.1 (fun t ht hW => ⟨rfl, by rw [ht]; exact hB, hS.F ht⟩) hS.2.2 hd B.2.2.2.2.2.2.1
end BR
