/-! instructions that touch the heap -/
theorem rng_get {N j : Nat} {f : Nat → Value} (h : j < N) : ((List.range N).map f)[j]? = some (f j) := by simp [h]
theorem rng_set {N j : Nat} {f f' : Nat → Value} (h : ∀ i, i ≠ j → f' i = f i) : ((List.range N).map f).set j (f' j) = (List.range N).map f' := by
  apply List.ext_getElem?
  intro i
  by_cases hi : i < N
  · by_cases hk : i = j
    · subst hk
      rw [List.getElem?_set_self (by simp [hi])]
      simp [hi]
    · rw [List.getElem?_set_ne (Ne.symm hk)]
      simp [hi, h i hk]
  · rw [List.getElem?_eq_none (by simp; omega), List.getElem?_eq_none (by simp; omega)]
theorem upr_ne {α : Type} {f : Nat → Nat → α} {k i : Nat} {r : Nat → α} (h : i ≠ k) : upr f k r i = f i := if_neg h
theorem upr_eq {α : Type} {f : Nat → Nat → α} {k : Nat} {r : Nat → α} : upr f k r k = r := if_pos rfl
theorem fvl_si {ev : EV} {g : Nat} {σ : St2} {c k j : Nat} {v : Int32} (i : Nat) (h : i ≠ j) : fvl ev g (si σ k j v) c k i = fvl ev g σ c k i := by
  unfold fvl si
  simp only [upr_eq]
  rw [show upd (σ.1 k) j v i = σ.1 k i from if_neg h]
theorem fvl_sl {ev : EV} {g : Nat} {σ : St2} {c k j : Nat} {v : Int64} (i : Nat) (h : i ≠ j) : fvl ev g (sl σ k j v) c k i = fvl ev g σ c k i := by
  unfold fvl sl
  simp only [upr_eq]
  rw [show updl (σ.2 k) j v i = σ.2 k i from if_neg h]
theorem fvl_0 {ev : EV} {g : Nat} {σ : St2} {c k j : Nat} (h : fkT c j < 2) : fvl ev g σ c k j = .int (σ.1 k j) := by
  unfold fvl
  rcases (show fkT c j = 0 ∨ fkT c j = 1 by omega) with z | z <;> (rw [z]) <;> rfl
theorem fvl_2 {ev : EV} {g : Nat} {σ : St2} {c k j : Nat} (h : fkT c j = 2) : fvl ev g σ c k j = .long (σ.2 k j) := by unfold fvl; rw [h]; rfl
theorem fvl_3 {ev : EV} {g : Nat} {σ : St2} {c k j : Nat} (h : fkT c j = 3) : fvl ev g σ c k j = .ref (ev.1 (rfs g k j)) := by unfold fvl; rw [h]; rfl
section NH
variable {g : Nat} {ev : EV} {μ pc : Nat} {ls st : List Value} {σ : St2} {Post : PO}
theorem n_getf {i c j k : Nat} {v : Value} (hd : decode (mB μ) pc = .ok (.getfield i, 3)) (hf : c < 7 ∧ j < cN c ∧ Cond.fieldLink (ocN (mC μ)) i ((clG c).2.1 j).1 ((clG c).2.1 j).2.1 ((clG c).2.1 j).2.2.1 ∈ lwG) (hk : k < nC g ∧ (shp g k).1 = c) (hv : fvl ev g σ c k j = mv ev v) (kk : PW g ev μ (pc + 3) ls (v :: st) σ Post) : PW g ev μ pc ls (.ref k :: st) σ Post := fun p l e s m args below meth cd H locs ms C hH hS hl => by
  obtain ⟨h1, h2, h3⟩ := hf
  obtain ⟨q1, q2, q3⟩ := clG_at c h1
  exact va_get (D := ev.2.1) (cl := cls7) (tys := tysG ev) (ws := wld ev g σ) (C := (clG c).1) (T := (clG c).2.1) (N := (clG c).2.2) (ci := c) (ref := ((clG c).2.1 j).1) (Ts := wsM μ) (v := mv ev v) C.1 C.2.1 C.2.2.2.2.2.1 (fun w hw => List.mem_cons_of_mem _ (inG c h1 w hw)) C.2.2.2.2.1 C.2.2.2.2.2.2.2.2.1 hH k ((wld_get hk.1).trans (by rw [ent_o hk.2 h1])) q1 j (by rw [q2]; exact h2) (cx_in C h3) (fun _ h => h) (by rw [← hv]; exact rng_get h2) hd (kk p l e s m args below meth cd H locs ms C hH hS hl)
theorem n_putf {i c j k : Nat} {v : Value} {ty : FieldType} {τ : St2} (hd : decode (mB μ) pc = .ok (.putfield i, 3)) (hf : c < 7 ∧ j < cN c ∧ Cond.fieldLink (ocN (mC μ)) i ((clG c).2.1 j).1 ((clG c).2.1 j).2.1 ((clG c).2.1 j).2.2.1 ∈ lwG) (hk : k < nC g ∧ (shp g k).1 = c) (hty : tyG c j = ty ∧ ((clG c).2.1 j).2.2.2 = false) (hn : narrow ty (mv ev v) = mv ev v) (hfit : fits ty (mv ev v) = true) (hv : fvl ev g τ c k j = mv ev v) (hj : ∀ i, i ≠ j → fvl ev g τ c k i = fvl ev g σ c k i) (h1' : ∀ i, i ≠ k → τ.1 i = σ.1 i) (h2' : ∀ i, i ≠ k → τ.2 i = σ.2 i) (kk : PW g ev μ (pc + 3) ls st τ Post) : PW g ev μ pc ls (v :: .ref k :: st) σ Post := fun p l e s m args below meth cd H locs ms C hH hS hl => by
  obtain ⟨h1, h2, h3⟩ := hf
  obtain ⟨q1, q2, q3⟩ := clG_at c h1
  have hI : Inj g ev := C.2.2.2.2.2.2.2.1
  refine va_put (D := ev.2.1) (cl := cls7) (tys := tysG ev) (ws := wld ev g σ) (C := (clG c).1) (T := (clG c).2.1) (N := (clG c).2.2) (ci := c) (ref := ((clG c).2.1 j).1) (Ts := wsM μ) (ty := ty) (v := mv ev v) C.1 C.2.1 C.2.2.2.2.2.1 (fun w hw => List.mem_cons_of_mem _ (inG c h1 w hw)) (tyG c) (tyG_ok c h1) (nmG c h1) C.2.2.2.2.1 C.2.2.2.2.2.2.2.2.1 hH (wld_D hI) hS k ((wld_get hk.1).trans (by rw [ent_o hk.2 h1])) q1 j (by rw [q2]; exact h2) (cx_in C h3) (fun _ h => h) hty.2 (by rw [tyG_ok c h1 j (by rw [q2]; exact h2), hty.1]) hn hfit (by simp [h2]) hd (fun H1 locs1 hP1 hD1 hS1 => ?_)
  have eW : (wld ev g σ).set k (ev.1 k, .inr (c, ((List.range (cN c)).map (fvl ev g σ c k)).set j (mv ev v))) = wld ev g τ := by
    rw [← wld_set (ev := ev) (g := g) (σ := σ) (τ := τ) (k := k) h1' h2', ent_o hk.2 h1, ← hv, rng_set hj]
  rw [eW] at hP1
  exact kk p l e s m args below meth cd H1 locs1 ms C hP1 hS1 hl
theorem ix_lt {i : Int32} {n : Nat} (h : vp_in i n) : i.toNatClampNeg < n := Nat.not_le.mp fun q => h (Or.inr q)
theorem n_iald {k : Nat} {i : Int32} (hd : decode (mB μ) pc = .ok (.iaload, 1)) (hk : k < nC g ∧ (shp g k).1 = 100) (hi : vp_in i (shp g k).2) (kk : PW g ev μ (pc + 1) ls (.int (σ.1 k i.toNatClampNeg) :: st) σ Post) : PW g ev μ pc ls (.int i :: .ref k :: st) σ Post := fun p l e s m args below meth cd H locs ms C hH hS hl =>
  va_iald (D := ev.2.1) (cl := cls7) (tys := tysG ev) (ws := wld ev g σ) C.1 C.2.1 C.2.2.2.2.2.2.2.2.1 hH k 0 ((wld_get hk.1).trans (by rw [ent_i hk.2 (Or.inl rfl)])) rfl hi hd (kk p l e s m args below meth cd H locs ms C hH hS hl)
theorem n_cald {k : Nat} {i : Int32} (hd : decode (mB μ) pc = .ok (.caload, 1)) (hk : k < nC g ∧ (shp g k).1 = 101) (hi : vp_in i (shp g k).2) (kk : PW g ev μ (pc + 1) ls (.int (σ.1 k i.toNatClampNeg) :: st) σ Post) : PW g ev μ pc ls (.int i :: .ref k :: st) σ Post := fun p l e s m args below meth cd H locs ms C hH hS hl =>
  va_cald (D := ev.2.1) (cl := cls7) (tys := tysG ev) (ws := wld ev g σ) C.1 C.2.1 C.2.2.2.2.2.2.2.2.1 hH k 1 ((wld_get hk.1).trans (by rw [ent_i hk.2 (Or.inr rfl)])) rfl hi hd (kk p l e s m args below meth cd H locs ms C hH hS hl)
theorem n_iast {k : Nat} {i v : Int32} (hd : decode (mB μ) pc = .ok (.iastore, 1)) (hk : k < nC g ∧ (shp g k).1 = 100) (hi : vp_in i (shp g k).2) (kk : PW g ev μ (pc + 1) ls st (si σ k i.toNatClampNeg v) Post) : PW g ev μ pc ls (.int v :: .int i :: .ref k :: st) σ Post := fun p l e s m args below meth cd H locs ms C hH hS hl => by
  refine va_iast (D := ev.2.1) (cl := cls7) (tys := tysG ev) (ws := wld ev g σ) C.1 C.2.1 C.2.2.2.2.2.2.2.2.1 hH (wld_D C.2.2.2.2.2.2.2.1) hS k 0 ((wld_get hk.1).trans (by rw [ent_i hk.2 (Or.inl rfl)])) rfl hi hd (fun H1 locs1 hP1 hD1 hS1 => ?_)
  have eW : (wld ev g σ).set k (ev.1 k, .inl (ev.2.2 100, (shp g k).2, .inl (upd (σ.1 k) i.toNatClampNeg v))) = wld ev g (si σ k i.toNatClampNeg v) := by
    rw [← wld_set (ev := ev) (g := g) (σ := σ) (τ := si σ k i.toNatClampNeg v) (k := k) (fun _ h => upr_ne h) (fun _ _ => rfl), ent_i hk.2 (Or.inl rfl)]
    congr 6
    exact upr_eq.symm
  rw [eW] at hP1
  exact kk p l e s m args below meth cd H1 locs1 ms C hP1 hS1 hl
theorem n_aald {k : Nat} {i : Int32} (hd : decode (mB μ) pc = .ok (.aaload, 1)) (hk : k < nC g ∧ ((shp g k).1 = 102 ∨ (shp g k).1 = 103)) (hi : vp_in i (shp g k).2) (kk : PW g ev μ (pc + 1) ls (.ref (rfs g k i.toNatClampNeg) :: st) σ Post) : PW g ev μ pc ls (.int i :: .ref k :: st) σ Post := fun p l e s m args below meth cd H locs ms C hH hS hl => by
  have hlt := ix_lt hi
  have hK : Kno ev s := C.2.2.2.2.2.2.2.2.1
  have hc := hH k _ (wld_get hk.1)
  have key : ∀ (t0 : Nat) (ty : FieldType) (c : Nat), (tysG ev)[t0]? = some (ev.2.2 c, ty) → ty.isReference = true → ent ev g σ k = .inl (ev.2.2 c, (shp g k).2, .inr (.inr (.inr (.inr (fun j => some (ev.1 (rfs g k j))))))) → W p l e (rmM μ) s m args below meth cd H locs 0 0 (MQ below (QcO g ev Post) args s 0 0 (Af g ev)) (F0 m pc ms (.int i :: .ref (ev.1 k) :: st.map (mv ev))) := by
    intro t0 ty c ht hr he
    rw [he] at hc
    exact W.aald (v := .ref (ev.1 (rfs g k i.toNatClampNeg))) (ty := ty) C.1 C.2.1 hc ((hK.2 t0 _ ht).1 (shp g k).2 (fun j => va_rf (some (ev.1 (rfs g k j))))) hr (fun q => by cases q) (by show ¬ (i < 0 ∨ (arrV _ _ _).slots.size ≤ _); rw [arrV_size]; exact hi) (by show (arrV _ _ _).slots[_]? = _; rw [arrV_read _ _ hlt]; rfl) rfl rfl hd (kk p l e s m args below meth cd H locs ms C hH hS hl)
  rcases hk.2 with h | h
  · exact key 2 (.array .int) 102 rfl rfl (ent_r h (Or.inl rfl))
  · exact key 3 (.object "ChainedChest$Sheet") 103 rfl rfl (ent_r h (Or.inr rfl))
theorem n_alen {k : Nat} (hd : decode (mB μ) pc = .ok (.arraylength, 1)) (hk : k < nC g ∧ ((shp g k).1 = 100 ∨ (shp g k).1 = 101)) (kk : PW g ev μ (pc + 1) ls (.int (nI (shp g k).2) :: st) σ Post) : PW g ev μ pc ls (.ref k :: st) σ Post := fun p l e s m args below meth cd H locs ms C hH hS hl => by
  rcases hk.2 with h | h
  · exact va_alen (x := ((shp g k).2, .inl (σ.1 k))) (D := ev.2.1) (cl := cls7) (tys := tysG ev) (ws := wld ev g σ) C.1 C.2.1 C.2.2.2.2.2.2.2.2.1 hH k 0 ((wld_get hk.1).trans (by rw [ent_i h (Or.inl rfl)])) rfl rfl hd (kk p l e s m args below meth cd H locs ms C hH hS hl)
  · exact va_alen (x := ((shp g k).2, .inl (σ.1 k))) (D := ev.2.1) (cl := cls7) (tys := tysG ev) (ws := wld ev g σ) C.1 C.2.1 C.2.2.2.2.2.2.2.2.1 hH k 1 ((wld_get hk.1).trans (by rw [ent_i h (Or.inr rfl)])) rfl rfl hd (kk p l e s m args below meth cd H locs ms C hH hS hl)
theorem n_ialdS {k : Nat} {i : Int32} (hd : decode (mB μ) pc = .ok (.iaload, 1)) (hk : g = 0 ∧ 200 ≤ k ∧ k < 206) (hi : vp_in i (shp g k).2) (kk : PW g ev μ (pc + 1) ls (.int (cst k i.toNatClampNeg) :: st) σ Post) : PW g ev μ pc ls (.int i :: .ref k :: st) σ Post := fun p l e s m args below meth cd H locs ms C hH hS hl => by
  obtain ⟨rfl, h1, h2⟩ := hk
  exact va_ti C.1 C.2.1 ((C.2.2.2.2.2.2.2.2.2 rfl).1 k h1 h2).2 hS hi rfl hd (kk p l e s m args below meth cd H locs ms C hH hS hl)
theorem n_gsA {i k : Nat} (hd : decode (mB μ) pc = .ok (.getstatic i, 3)) (hg : g = 0) (hf : 200 ≤ k ∧ k < 206 ∧ Cond.fieldLink (ocN (mC μ)) i RX0 (stN k) "[I" ∈ lwG) (kk : PW g ev μ (pc + 3) ls (.ref k :: st) σ Post) : PW g ev μ pc ls st σ Post := fun p l e s m args below meth cd H locs ms C hH hS hl => by
  obtain ⟨h1, h2, h3⟩ := hf
  exact va_gets C.1 C.2.1 ((C.2.2.2.2.2.2.2.2.2 hg).1 k h1 h2).1 hS C.2.2.2.2.1 (cx_in C h3) (fun _ h => h) hd (kk p l e s m args below meth cd H locs ms C hH hS hl)
theorem n_gsI {i : Nat} (hd : decode (mB μ) pc = .ok (.getstatic i, 3)) (hg : g = 0) (hf : Cond.fieldLink (ocN (mC μ)) i (stF 2).1 (stF 2).2.1 (stF 2).2.2 ∈ lwG) (kk : PW g ev μ (pc + 3) ls (.int 1 :: st) σ Post) : PW g ev μ pc ls st σ Post := fun p l e s m args below meth cd H locs ms C hH hS hl =>
  va_gets C.1 C.2.1 (C.2.2.2.2.2.2.2.2.2 hg).2.2.1 hS C.2.2.2.2.1 (cx_in C hf) (fun _ h => h) hd (kk p l e s m args below meth cd H locs ms C hH hS hl)
theorem n_gsQ {i : Nat} (hd : decode (mB μ) pc = .ok (.getstatic i, 3)) (hg : g = 0) (hf : Cond.fieldLink (ocN (mC μ)) i (stF 3).1 (stF 3).2.1 (stF 3).2.2 ∈ lwG) (k1 : PW g ev μ (pc + 3) ls (.null :: st) σ Post) (k2 : PW g ev μ (pc + 3) ls (.ref 999 :: st) σ Post) : PW g ev μ pc ls st σ Post := fun p l e s m args below meth cd H locs ms C hH hS hl => by
  rcases (C.2.2.2.2.2.2.2.2.2 hg).2.2.2 with hZ | hZ
  · exact va_gets C.1 C.2.1 hZ hS C.2.2.2.2.1 (cx_in C hf) (fun _ h => h) hd (k1 p l e s m args below meth cd H locs ms C hH hS hl)
  · exact va_gets C.1 C.2.1 hZ hS C.2.2.2.2.1 (cx_in C hf) (fun _ h => h) hd (k2 p l e s m args below meth cd H locs ms C hH hS hl)
theorem str_at {k : Nat} (h1 : 300 ≤ k) (h2 : k < 316) : ∃ q, strL[k - 300]? = some q := by
  have : k - 300 < strL.length := by show k - 300 < 16; omega
  exact ⟨_, List.getElem?_eq_getElem this⟩
theorem n_ldS {i k : Nat} (hd : decode (mB μ) pc = .ok (.ldc i, 2)) (hg : g = 0) (hm : mC μ = 3) (h1 : 300 ≤ k) (hq : ∃ tx, strL[k - 300]? = some (i, tx)) (kk : PW g ev μ (pc + 2) ls (.ref k :: st) σ Post) : PW g ev μ pc ls st σ Post := fun p l e s m args below meth cd H locs ms C hH hS hl => by
  obtain ⟨tx, hq⟩ := hq
  have h2 : k < 316 := by
    have h3 := (List.getElem?_eq_some_iff.mp hq).1
    have h4 : k - 300 < 16 := h3
    omega
  have hown := C.2.2.2.2.1
  rw [hm] at hown
  exact va_ldcS C.1 C.2.1 (own := RX3) hown ((C.2.2.2.2.2.2.2.2.2 hg).2.1 k h1 h2 _ hq).1 hd (kk p l e s m args below meth cd H locs ms C hH hS hl)
theorem n_gfS {i k : Nat} (hd : decode (mB μ) pc = .ok (.getfield i, 3)) (hf : Cond.fieldLink (ocN (mC μ)) i (stF 0).1 (stF 0).2.1 (stF 0).2.2 ∈ lwG) (hk : g = 0 ∧ 300 ≤ k ∧ k < 316) (kk : PW g ev μ (pc + 3) ls (.ref (k + 100) :: st) σ Post) : PW g ev μ pc ls (.ref k :: st) σ Post := fun p l e s m args below meth cd H locs ms C hH hS hl => by
  obtain ⟨h0, h1, h2⟩ := hk
  obtain ⟨q, hq⟩ := str_at h1 h2
  exact vk_getf C.1 C.2.1 ((C.2.2.2.2.2.2.2.2.2 h0).2.1 k h1 h2 _ hq).2.2.2.1 hS C.2.2.2.2.1 (cx_in C hf) (fun _ h => h) hd (kk p l e s m args below meth cd H locs ms C hH hS hl)
theorem n_gfC {i k : Nat} (hd : decode (mB μ) pc = .ok (.getfield i, 3)) (hf : Cond.fieldLink (ocN (mC μ)) i (stF 1).1 (stF 1).2.1 (stF 1).2.2 ∈ lwG) (hk : g = 0 ∧ 300 ≤ k ∧ k < 316) (kk : PW g ev μ (pc + 3) ls (.int 0 :: st) σ Post) : PW g ev μ pc ls (.ref k :: st) σ Post := fun p l e s m args below meth cd H locs ms C hH hS hl => by
  obtain ⟨h0, h1, h2⟩ := hk
  obtain ⟨q, hq⟩ := str_at h1 h2
  exact vk_getf C.1 C.2.1 ((C.2.2.2.2.2.2.2.2.2 h0).2.1 k h1 h2 _ hq).2.2.1 hS C.2.2.2.2.1 (cx_in C hf) (fun _ h => h) hd (kk p l e s m args below meth cd H locs ms C hH hS hl)
theorem n_baldS {k : Nat} {i : Int32} (hd : decode (mB μ) pc = .ok (.baload, 1)) (hk : g = 0 ∧ 400 ≤ k ∧ k < 416) (hi : vp_in i (shp g k).2) (kk : PW g ev μ (pc + 1) ls (.int (cst k i.toNatClampNeg) :: st) σ Post) : PW g ev μ pc ls (.int i :: .ref k :: st) σ Post := fun p l e s m args below meth cd H locs ms C hH hS hl => by
  obtain ⟨rfl, h1, h2⟩ := hk
  obtain ⟨k', rfl⟩ : ∃ k', k = k' + 100 := ⟨k - 100, by omega⟩
  obtain ⟨q, hq⟩ := str_at (k := k') (by omega) (by omega)
  exact va_tb C.1 C.2.1 ((C.2.2.2.2.2.2.2.2.2 rfl).2.1 k' (by omega) (by omega) _ hq).2.2.2.2 hS hi rfl hd (kk p l e s m args below meth cd H locs ms C hH hS hl)
theorem n_alenS {k : Nat} (hd : decode (mB μ) pc = .ok (.arraylength, 1)) (hk : g = 0 ∧ 400 ≤ k ∧ k < 416) (kk : PW g ev μ (pc + 1) ls (.int (nI (shp g k).2) :: st) σ Post) : PW g ev μ pc ls (.ref k :: st) σ Post := fun p l e s m args below meth cd H locs ms C hH hS hl => by
  obtain ⟨rfl, h1, h2⟩ := hk
  obtain ⟨k', rfl⟩ : ∃ k', k = k' + 100 := ⟨k - 100, by omega⟩
  obtain ⟨q, hq⟩ := str_at (k := k') (by omega) (by omega)
  exact va_tlen C.1 C.2.1 ((C.2.2.2.2.2.2.2.2.2 rfl).2.1 k' (by omega) (by omega) _ hq).2.2.2.2 hS rfl hd (kk p l e s m args below meth cd H locs ms C hH hS hl)
theorem le4_use {st : List Value} {P : Prop} (h : le4 st P) : st.length ≤ 4 ∧ P := by
  unfold le4 at h
  split at h
  next => exact h.elim
  next hn =>
    refine ⟨?_, h⟩
    rcases st with _ | ⟨a, _ | ⟨b, _ | ⟨c, _ | ⟨d, _ | ⟨e, r⟩⟩⟩⟩⟩
    · simp
    · simp
    · simp
    · simp
    · simp
    · exact absurd rfl (hn a b c d e r)
theorem cat_sum (ev : EV) : ∀ (st : List Value) (n : Nat), st.length ≤ n → ((st.map (mv ev)).map fun v => v.category).sum ≤ 2 * n := by
  intro st
  induction st with
  | nil => intro n _; simp
  | cons v st ih =>
    intro n h
    cases n with
    | zero => simp at h
    | succ n =>
      have h1 := ih n (by simpa using h)
      have h2 := lv_cat (mv ev v)
      simp only [List.map_cons, List.sum_cons]
      omega
theorem n_mmin {i : Nat} {x y : Int32} (hd : decode (mB μ) pc = .ok (.invokestatic i, 3)) (hf : Cond.methodLink (ocN (mC μ)) i (ntN 0) ∈ lwG) (he : 0 < mE μ) (h4 : st.length ≤ 4) (kk : PW g ev μ (pc + 3) ls (.int (if y < x then y else x) :: st) σ Post) : PW g ev μ pc ls (.int y :: .int x :: st) σ Post := fun p l e s m args below meth cd H locs ms C hH hS hl =>
  va_mmin (R := rmM μ) C.1 C.2.1 (by rw [C.2.2.2.1, hl.1]) C.2.2.2.2.1 (cx_in C hf) (cx_in C (nat_in _ (by simp))) (cx_in C (nat_in _ (by simp))) (cx_in C (nat_in _ (by simp))) he (by have := cat_sum ev st 4 h4; show _ + 13 ≤ 40 * mE μ; omega) (Nat.zero_le _) (Nat.zero_le _) hd (kk p l e s m args below meth cd H locs ms C hH hS hl)
theorem n_mmax {i : Nat} {x y : Int32} (hd : decode (mB μ) pc = .ok (.invokestatic i, 3)) (hf : Cond.methodLink (ocN (mC μ)) i (ntN 1) ∈ lwG) (he : 0 < mE μ) (h4 : st.length ≤ 4) (kk : PW g ev μ (pc + 3) ls (.int (if x < y then y else x) :: st) σ Post) : PW g ev μ pc ls (.int y :: .int x :: st) σ Post := fun p l e s m args below meth cd H locs ms C hH hS hl =>
  va_mmax (R := rmM μ) C.1 C.2.1 (by rw [C.2.2.2.1, hl.1]) C.2.2.2.2.1 (cx_in C hf) (cx_in C (nat_in _ (by simp))) (cx_in C (nat_in _ (by simp))) (cx_in C (nat_in _ (by simp))) he (by have := cat_sum ev st 4 h4; show _ + 13 ≤ 40 * mE μ; omega) (Nat.zero_le _) (Nat.zero_le _) hd (kk p l e s m args below meth cd H locs ms C hH hS hl)
theorem n_mmaxL {i : Nat} {x y : Int64} (hd : decode (mB μ) pc = .ok (.invokestatic i, 3)) (hf : Cond.methodLink (ocN (mC μ)) i (ntN 2) ∈ lwG) (he : 0 < mE μ) (h4 : st.length ≤ 4) (kk : PW g ev μ (pc + 3) ls (.long (if y < x then x else y) :: st) σ Post) : PW g ev μ pc ls (.long y :: .long x :: st) σ Post := fun p l e s m args below meth cd H locs ms C hH hS hl =>
  va_mmax_long (R := rmM μ) C.1 C.2.1 (by rw [C.2.2.2.1, hl.1]) C.2.2.2.2.1 (cx_in C hf) (cx_in C (nat_in _ (by simp))) (cx_in C (nat_in _ (by simp))) (cx_in C (nat_in _ (by simp))) he (by have := cat_sum ev st 4 h4; show _ + 15 ≤ 40 * mE μ; omega) (Nat.zero_le _) (Nat.zero_le _) hd (kk p l e s m args below meth cd H locs ms C hH hS hl)
theorem n_acopy {i k k0 : Nat} {sp dp n : Int32} (hd : decode (mB μ) pc = .ok (.invokestatic i, 3)) (hf : Cond.methodLink (ocN (mC μ)) i (ntN 3) ∈ lwG) (he : 0 < mE μ) (h4 : st.length ≤ 4) (hk : k < nC g ∧ (shp g k).1 = 100) (hk0 : k0 < nC g ∧ (shp g k0).1 = 100) (h3 : ¬ sp < 0 ∧ ¬ dp < 0 ∧ ¬ n < 0) (h5 : sp.toNatClampNeg + n.toNatClampNeg ≤ (shp g k0).2 ∧ dp.toNatClampNeg + n.toNatClampNeg ≤ (shp g k).2) (kk : PW g ev μ (pc + 3) ls st (sr σ k (va_cpy (σ.1 k0) (σ.1 k) sp.toNatClampNeg dp.toNatClampNeg n.toNatClampNeg)) Post) : PW g ev μ pc ls (.int n :: .int dp :: .ref k :: .int sp :: .ref k0 :: st) σ Post := fun p l e s m args below meth cd H locs ms C hH hS hl => by
  have hloc : ((st.map (mv ev)).map fun v => v.category).sum + (nativeFrameWords "java/lang/System" "arraycopy" 5 + 11) ≤ (rmM μ).locals := by
    have h1 := cat_sum ev st 4 h4
    have e1 : nativeFrameWords "java/lang/System" "arraycopy" 5 = 7 := by decide +kernel
    rw [e1]
    show _ + (7 + 11) ≤ 40 * mE μ
    omega
  refine va_copyi (R := rmM μ) (D := ev.2.1) (cl := cls7) (tys := tysG ev) (ws := wld ev g σ) (ty := .int) C.1 C.2.1 (by rw [C.2.2.2.1, hl.1]) C.2.2.2.2.1 (cx_in C hf) (cx_in C (nat_in _ (by simp))) (cx_in C (nat_in _ (by simp))) (cx_in C (nat_in _ (by simp))) C.2.2.2.2.2.2.2.2.1 hH (wld_D C.2.2.2.2.2.2.2.1) hS k0 k 0 0 ((wld_get hk0.1).trans (by rw [ent_i hk0.2 (Or.inl rfl)])) ((wld_get hk.1).trans (by rw [ent_i hk.2 (Or.inl rfl)])) rfl rfl rfl h3.1 h3.2.1 h3.2.2 h5.1 h5.2 (fun _ _ => rfl) he hloc hd (fun H1 locs1 hP1 hD1 hS1 => ?_)
  have eW : (wld ev g σ).set k (ev.1 k, .inl (ev.2.2 100, (shp g k).2, .inl (va_cpy (σ.1 k0) (σ.1 k) sp.toNatClampNeg dp.toNatClampNeg n.toNatClampNeg))) = wld ev g (sr σ k (va_cpy (σ.1 k0) (σ.1 k) sp.toNatClampNeg dp.toNatClampNeg n.toNatClampNeg)) := by
    rw [← wld_set (ev := ev) (g := g) (σ := σ) (τ := sr σ k (va_cpy (σ.1 k0) (σ.1 k) sp.toNatClampNeg dp.toNatClampNeg n.toNatClampNeg)) (k := k) (fun _ h => upr_ne h) (fun _ _ => rfl), ent_i hk.2 (Or.inl rfl)]
    congr 6
    exact upr_eq.symm
  rw [eW] at hP1
  exact kk p l e s m args below meth cd H1 locs1 ms C hP1 hS1 hl
end NH
