/-! the law: its two objects' stores, a call on the one and on the other -/
section LAW
variable {p : Program} {l : Launch} {e : Env} {s : State} {m : MethodId} {below : List Frame} {meth : Method} {c : Code} {b L : Nat} {xs : Nat → Int32} {eX eM : EV} {pc n : Nat} {i : Int32} {st : List Value} {σ σm : St2}
def LCx (s : State) (eX eM : EV) : Prop := (Inj 0 eX ∧ Kno eX s ∧ Ex 0 eX s s.heap ∧ ∀ k, k < nC 0 → s.heap.size ≤ eX.1 k) ∧ (Inj 1 eM ∧ Kno eM s ∧ Ex 1 eM s s.heap ∧ ∀ k, k < nC 1 → s.heap.size ≤ eM.1 k) ∧ ∀ i j, i < nC 0 → j < nC 1 → eX.1 i ≠ eM.1 j
def LW (p : Program) (l : Launch) (e : Env) (s : State) (m : MethodId) (below : List Frame) (meth : Method) (c : Code) (b : Nat) (eX eM : EV) (pc : Nat) (i : Int32) (st : List Value) (σ σm : St2) : Prop :=
  ∀ (H : Heap) (locs : List Loc) (ms : Array Slot), Hld 0 eX σ H → Hld 1 eM σm H → va_S (fun q : Nat => s.heap.size ≤ q) s.heap H locs → lv_has ms 4 [(0, .ref b), (1, .ref (eX.1 0)), (2, .ref (eM.1 0)), (3, .int i)] → W p l e room_1 s m #[Value.ref b] below meth c H locs 600000 7302250 (lw_Z below #[Value.ref b] s) (F0 m pc ms st)
theorem lw_lwG (C0 : lw_At p s m meth c b L xs) : ∀ w ∈ lwG, w.before #[Value.ref b] s = true := fun w hw => C0.2.2.2.2.2.1 w (List.mem_filter.mp hw).1
theorem wld_mem {g : Nat} {ev : EV} {σ : St2} {k : Nat} {q : Nat × va_E} (h : (wld ev g σ)[k]? = some q) : k < nC g ∧ q.1 = ev.1 k := by
  unfold wld at h
  rw [List.getElem?_map] at h
  rcases Nat.lt_or_ge k (nC g) with z | z
  · rw [List.getElem?_range z] at h
    cases h
    exact ⟨z, rfl⟩
  · rw [List.getElem?_eq_none (by rw [List.length_range]; exact z)] at h
    cases h
theorem hld_kept {g : Nat} {ev : EV} {σ : St2} {H H1 : Heap} (h : Hld g ev σ H) (hq : ∀ k, k < nC g → ev.1 k < H.size → H1[ev.1 k]? = H[ev.1 k]?) : Hld g ev σ H1 :=
  va_P.kept h (fun k q hk => by
    obtain ⟨a, b⟩ := wld_mem hk
    have := (h k q hk).lt
    rw [b] at this ⊢
    exact hq k a this)
theorem L_wrd {g : Nat} {ev : EV} {σ : St2} {H : Heap} {locs : List Loc} (hC : Inj g ev ∧ Kno ev s ∧ Ex g ev s s.heap ∧ ∀ k, k < nC g → s.heap.size ≤ ev.1 k) (hH : Hld g ev σ H) (hS : va_S (fun q : Nat => s.heap.size ≤ q) s.heap H locs) {U : State} (hU : U.heap = H) (hW : s.WarmedH U.vm) : Wrd g ev σ U :=
  ⟨by rw [hU]; exact hH, hC.1, va_K.moved hW.alike hC.2.1, by rw [hU]; exact Ex.warm hW (hC.2.2.1.kept (fun q h1 _ => hS.2.1 q h1 (Nat.not_le.mpr h1)))⟩
/-- a call, on either object -/
theorem L_call {g μ ix : Nat} {ev : EV} {σ : St2} {as rest : List Value} {K : PO} {H : Heap} {locs : List Loc} {ms : Array Slot} (C0 : lw_At p s m meth c b L xs) (hC : Inj g ev ∧ Kno ev s ∧ Ex g ev s s.heap ∧ ∀ k, k < nC g → s.heap.size ≤ ev.1 k)
    (hd : decode code pc = .ok (.invokevirtual ix, 3)) (hy : μ < 256 ∧ Cond.methodLink R_law ix (mY μ) ∈ lwG) (hst : mS μ = false) (hE : mE μ ≤ 10) (hn : mA μ = as.length + 1) (hr4 : (rest.map fun v => v.category).sum ≤ 8) (hR : Rn g ev μ (.ref 0 :: as) σ K) (hH : Hld g ev σ H) (hS : va_S (fun q : Nat => s.heap.size ≤ q) s.heap H locs) (hsz : ms.size = 4)
    (kk : ∀ (r : Option Value) (τ : St2) (H1 : Heap) (locs1 : List Loc), K r τ → Hld g ev τ H1 → (∀ q : Nat, q < H.size → ¬ Af g ev q → H1[q]? = H[q]?) → va_S (fun q : Nat => s.heap.size ≤ q) s.heap H1 locs1 → W p l e room_1 s m #[Value.ref b] below meth c H1 locs1 600000 7302250 (lw_Z below #[Value.ref b] s) (F0 m (pc + 3) ms ((r.map (mv ev)).toList ++ rest))) :
    W p l e room_1 s m #[Value.ref b] below meth c H locs 600000 7302250 (lw_Z below #[Value.ref b] s) (F0 m pc ms ((as.map (mv ev)).reverse ++ .ref (ev.1 0) :: rest)) := by
  obtain ⟨hr, hA, hMt⟩ := hR
  obtain ⟨k, as', ea, hrc⟩ := hr hst
  cases ea
  obtain ⟨b1, b2, b3, b4⟩ := meth_b_use hy.1
  obtain ⟨a1, a2, a3, a4, a5, a6⟩ := meth_a_use hy.1
  have hts := lw_lwG C0
  obtain ⟨cB, hcB⟩ : ∃ cellB : Cell, H[ev.1 0]? = some cellB ∧ cellB.vm.isStatics = false ∧ s.vm.findClass (ocN (mC μ)) = some cellB.cls := by
    rcases hrc with ⟨h1, h2, h3⟩ | ⟨-, -, h1, -⟩
    · obtain ⟨q1, -, q3⟩ := clG_at (mC μ) h3
      rw [← q3]
      exact va_recv hC.2.1 hH q1 ((wld_get h1).trans (by rw [ent_o h2 h3]))
    · omega
  have hrun := va_runV (p := p) (l := l) (e := e) (R := room_1) (m := m) (below := below) (meth := meth) (locs := locs) (cells := 600000) (slots := 7302250) (As := as.map (mv ev)) (rest := rest) (b := ev.1 0) (g := F0 m pc ms ((as.map (mv ev)).reverse ++ .ref (ev.1 0) :: rest)) (H := H) ⟨C0.1, C0.2.1, C0.2.2.2.1, C0.2.2.2.2.1, hts⟩ (hMt l) (C := (mY μ).cls) ⟨callB_m (own := R_law) (i := ix) hts hy.1 (by show mE μ + 1 ≤ 12; omega) (by show 40 * (mE μ + 1) ≤ 442; omega) hy.2, hts _ (b4 hst).1, hts _ (b4 hst).2⟩
    ⟨wrd_blind, ⟨cB, hcB.1, hcB.2.1, by rw [a1]; exact hcB.2.2⟩, fun U hU hW => ⟨rfl, L_wrd hC hH hS hU hW⟩⟩ rfl (by rw [List.length_map, hst, hn]; rfl) hsz rfl (lv_room hr4) hd ⟨Nat.le_refl _, Nat.le_refl _⟩
  refine w_call hrun hS (fun q hq => ?_) (fun r τ t H1 locs1 ht hvm hK hW hfr hsz hS1 => kk r τ H1 locs1 hK (by rw [← ht]; exact hW.1) hfr hS1)
  obtain ⟨j, hj, rfl⟩ := hq
  exact hC.2.2.2 j hj
/-- a call on the class -/
theorem L_callX {μ ix : Nat} {as rest : List Value} {K : PO} (C0 : lw_At p s m meth c b L xs) (hC : LCx s eX eM) (hd : decode code pc = .ok (.invokevirtual ix, 3)) (hy : μ < 256 ∧ Cond.methodLink R_law ix (mY μ) ∈ lwG) (hst : mS μ = false) (hE : mE μ ≤ 10) (hn : mA μ = as.length + 1) (hr4 : (rest.map fun v => v.category).sum ≤ 8) (hR : Rn 0 eX μ (.ref 0 :: as) σ K)
    (kk : ∀ r τ, K r τ → LW p l e s m below meth c b eX eM (pc + 3) i ((r.map (mv eX)).toList ++ rest) τ σm) : LW p l e s m below meth c b eX eM pc i ((as.map (mv eX)).reverse ++ .ref (eX.1 0) :: rest) σ σm := fun H locs ms hX hM hS hl =>
  L_call C0 hC.1 hd hy hst hE hn hr4 hR hX hS hl.1 (fun r τ H1 locs1 hK hH hfr hS1 => kk r τ hK H1 locs1 ms hH (hld_kept hM (fun k hk hlt => hfr _ hlt (fun ⟨j, hj, e⟩ => hC.2.2 j k hj hk e.symm))) hS1 hl)
/-- a call on the reference -/
theorem L_callM {μ ix : Nat} {as rest : List Value} {K : PO} (C0 : lw_At p s m meth c b L xs) (hC : LCx s eX eM) (hd : decode code pc = .ok (.invokevirtual ix, 3)) (hy : μ < 256 ∧ Cond.methodLink R_law ix (mY μ) ∈ lwG) (hst : mS μ = false) (hE : mE μ ≤ 10) (hn : mA μ = as.length + 1) (hr4 : (rest.map fun v => v.category).sum ≤ 8) (hR : Rn 1 eM μ (.ref 0 :: as) σm K)
    (kk : ∀ r τ, K r τ → LW p l e s m below meth c b eX eM (pc + 3) i ((r.map (mv eM)).toList ++ rest) σ τ) : LW p l e s m below meth c b eX eM pc i ((as.map (mv eM)).reverse ++ .ref (eM.1 0) :: rest) σ σm := fun H locs ms hX hM hS hl =>
  L_call C0 hC.2.1 hd hy hst hE hn hr4 hR hM hS hl.1 (fun r τ H1 locs1 hK hH hfr hS1 => kk r τ hK H1 locs1 ms (hld_kept hX (fun k hk hlt => hfr _ hlt (fun ⟨j, hj, e⟩ => hC.2.2 k j hk hj e))) hH hS1 hl)
/-- the script's int at the law's place and k behind it -/
def dA (pc : Nat) (k : Int) : Prop := decode code pc = .ok (.aload_n 0, 1) ∧ decode code (pc + 1) = .ok (.iload_n 3, 1) ∧ decode code (pc + 2) = .ok (.iconst k, 1) ∧ decode code (pc + 3) = .ok (.iadd, 1) ∧ decode code (pc + 4) = .ok (.iaload, 1)
theorem L_arg {t k : Nat} (C0 : lw_At p s m meth c b L xs) (hL : L ≤ 3072) (hd : dA pc k) (hk : t + k < L) (kk : LW p l e s m below meth c b eX eM (pc + 5) (nI t) (.int (xs (t + k)) :: st) σ σm) : LW p l e s m below meth c b eX eM pc (nI t) st σ σm := fun H locs ms hX hM hS hl => by
  obtain ⟨hx, hb, hr, hml, hown, hts, hX0, hbl, hlocks, hgv⟩ := C0
  obtain ⟨d0, d1, d2, d3, d4⟩ := hd
  refine lv_aload_n hx hb d0 rfl (lv_at hl 0 rfl) ?_
  refine lv_iload_n hx hb d1 rfl (lv_at hl 3 rfl) ?_
  refine lv_iconst (v := nI k) hx hb d2 rfl ?_
  refine lv_iadd hx hb d3 ?_
  rw [nI_add]
  refine va_sld hx hb hX0 hbl (Nat.not_le.mpr hbl) hS (vp_in_nI hk (by omega)) d4 ?_
  rw [nI_clamp (by omega)]
  exact kk H locs ms hX hM hS hl
def dAs (pc : Nat) : Nat → Nat → Prop
  | _, 0 => True
  | k, n + 1 => dA pc k ∧ dAs (pc + 5) (k + 1) n
def stk (xs : Nat → Int32) (t : Nat) : Nat → Nat → List Value → List Value
  | _, 0, st => st
  | k, n + 1, st => stk xs t (k + 1) n (.int (xs (t + k)) :: st)
theorem L_args {t : Nat} (C0 : lw_At p s m meth c b L xs) (hL : L ≤ 3072) : ∀ (n k pc : Nat) (st : List Value), dAs pc k n → t + k + n ≤ L → LW p l e s m below meth c b eX eM (pc + 5 * n) (nI t) (stk xs t k n st) σ σm → LW p l e s m below meth c b eX eM pc (nI t) st σ σm
  | 0, k, pc, st, _, _, kk => kk
  | n + 1, k, pc, st, hd, hk, kk => L_arg C0 hL hd.1 (by omega) (L_args C0 hL n (k + 1) (pc + 5) _ hd.2 (by omega) (by rw [show pc + 5 + 5 * n = pc + 5 * (n + 1) by omega]; exact kk))
def asO (xs : Nat → Int32) (t n : Nat) : List Value := (List.range n).map (fun j => .int (xs (t + 1 + j)))
def dOp (pc n ix im : Nat) : Prop := decode code pc = .ok (.aload_n 1, 1) ∧ dAs (pc + 1) 1 n ∧ decode code (pc + 1 + 5 * n) = .ok (.invokevirtual ix, 3) ∧ decode code (pc + 1 + 5 * n + 3) = .ok (.aload_n 2, 1) ∧ dAs (pc + 1 + 5 * n + 3 + 1) 1 n ∧ decode code (pc + 1 + 5 * n + 3 + 1 + 5 * n) = .ok (.invokevirtual im, 3)
def lnk (μ ix n : Nat) : Prop := (μ < 256 ∧ Cond.methodLink R_law ix (mY μ) ∈ lwG) ∧ mS μ = false ∧ mE μ ≤ 10 ∧ mA μ = n + 1
theorem L_aload {k : Fin 4} {v : Nat} (C0 : lw_At p s m meth c b L xs) (hd : decode code pc = .ok (.aload_n k, 1)) (hk : k = 1 ∧ v = eX.1 0 ∨ k = 2 ∧ v = eM.1 0 ∨ k = 0 ∧ v = b) (kk : LW p l e s m below meth c b eX eM (pc + 1) i (.ref v :: st) σ σm) : LW p l e s m below meth c b eX eM pc i st σ σm := fun H locs ms hX hM hS hl => by
  rcases hk with ⟨rfl, rfl⟩ | ⟨rfl, rfl⟩ | ⟨rfl, rfl⟩
  · exact lv_aload_n C0.1 C0.2.1 hd rfl (lv_at hl 1 rfl) (kk H locs ms hX hM hS hl)
  · exact lv_aload_n C0.1 C0.2.1 hd rfl (lv_at hl 2 rfl) (kk H locs ms hX hM hS hl)
  · exact lv_aload_n C0.1 C0.2.1 hd rfl (lv_at hl 0 rfl) (kk H locs ms hX hM hS hl)
theorem stk_eq (xs : Nat → Int32) (t : Nat) : ∀ n k st, stk xs t k n st = ((List.range n).map (fun j => Value.int (xs (t + k + j)))).reverse ++ st
  | 0, k, st => rfl
  | n + 1, k, st => by
    rw [stk, stk_eq xs t n (k + 1), List.range_succ_eq_map, List.map_cons, List.reverse_cons, List.append_assoc, List.map_map]
    congr 2
    apply List.map_congr_left
    intro j _
    show Value.int (xs (t + (k + 1) + j)) = Value.int (xs (t + k + (j + 1)))
    rw [show t + (k + 1) + j = t + k + (j + 1) by omega]
theorem asO_mv (ev : EV) (t n : Nat) : (asO xs t n).map (mv ev) = asO xs t n := by
  unfold asO
  rw [List.map_map]
  rfl
/-- one operation of the law -/
theorem L_op {μ ν ix im t : Nat} (C0 : lw_At p s m meth c b L xs) (hC : LCx s eX eM) (hL : L ≤ 3072) (ht : t + 6 ≤ L) (hn5 : n ≤ 5) (hd : dOp pc n ix im) (hc : decode code (pc + 8 + 10 * n) = .ok (.if_icmp .eq (1278 - (pc + 8 + 10 * n : Nat) : Int), 3)) (lX : lnk μ ix n) (lM : lnk ν im n) (hP : Pr eX eM μ ν (asO xs t n) σ σm)
    (kk : ∀ τ τm, Rel τ τm → LW p l e s m below meth c b eX eM 1278 (nI t) [] τ τm) : LW p l e s m below meth c b eX eM pc (nI t) [] σ σm := by
  obtain ⟨d0, d1, d2, d3, d4, d5⟩ := hd
  have hlen : (asO xs t n).length = n := by unfold asO; rw [List.length_map, List.length_range]
  refine L_aload C0 d0 (Or.inl ⟨rfl, rfl⟩) (L_args C0 hL n 1 _ _ d1 (by omega) ?_)
  rw [stk_eq, show ((List.range n).map (fun j => Value.int (xs (t + 1 + j)))) = (asO xs t n).map (mv eX) from (asO_mv eX t n).symm]
  refine L_callX C0 hC d2 lX.1 lX.2.1 lX.2.2.1 (by rw [hlen]; exact lX.2.2.2) (Nat.zero_le _) hP (fun r τ ⟨v, hv, hR⟩ => ?_)
  subst hv
  refine L_aload C0 d3 (Or.inr (Or.inl ⟨rfl, rfl⟩)) (L_args C0 hL n 1 _ _ d4 (by omega) ?_)
  rw [stk_eq, show ((List.range n).map (fun j => Value.int (xs (t + 1 + j)))) = (asO xs t n).map (mv eM) from (asO_mv eM t n).symm]
  refine L_callM C0 hC d5 lM.1 lM.2.1 lM.2.2.1 (by rw [hlen]; exact lM.2.2.2) (Nat.le_of_ble_eq_true rfl) hR (fun r' τm ⟨hv, hRel⟩ => ?_)
  subst hv
  intro H locs ms hX hM hS hl
  rw [show pc + 1 + 5 * n + 3 + 1 + 5 * n + 3 = pc + 8 + 10 * n by omega]
  exact lv_icmp_eq (tgt := 1278) C0.1 C0.2.1 hc (by omega) (fun _ => kk τ τm hRel H locs ms hX hM hS hl) (fun z => absurd rfl z)
/-- the one whose answer is a long -/
theorem L_opL {μ ν ix im t : Nat} (C0 : lw_At p s m meth c b L xs) (hC : LCx s eX eM) (hL : L ≤ 3072) (ht : t + 6 ≤ L) (hn5 : n ≤ 5) (hd : dOp pc n ix im) (hc0 : decode code (pc + 8 + 10 * n) = .ok (.lcmp, 1)) (hc : decode code (pc + 8 + 10 * n + 1) = .ok (.ifCond .eq (1278 - (pc + 8 + 10 * n + 1 : Nat) : Int), 3)) (lX : lnk μ ix n) (lM : lnk ν im n) (hP : PrL eX eM μ ν (asO xs t n) σ σm)
    (kk : ∀ τ τm, Rel τ τm → LW p l e s m below meth c b eX eM 1278 (nI t) [] τ τm) : LW p l e s m below meth c b eX eM pc (nI t) [] σ σm := by
  obtain ⟨d0, d1, d2, d3, d4, d5⟩ := hd
  have hlen : (asO xs t n).length = n := by unfold asO; rw [List.length_map, List.length_range]
  refine L_aload C0 d0 (Or.inl ⟨rfl, rfl⟩) (L_args C0 hL n 1 _ _ d1 (by omega) ?_)
  rw [stk_eq, show ((List.range n).map (fun j => Value.int (xs (t + 1 + j)))) = (asO xs t n).map (mv eX) from (asO_mv eX t n).symm]
  refine L_callX C0 hC d2 lX.1 lX.2.1 lX.2.2.1 (by rw [hlen]; exact lX.2.2.2) (Nat.zero_le _) hP (fun r τ ⟨v, hv, hR⟩ => ?_)
  subst hv
  refine L_aload C0 d3 (Or.inr (Or.inl ⟨rfl, rfl⟩)) (L_args C0 hL n 1 _ _ d4 (by omega) ?_)
  rw [stk_eq, show ((List.range n).map (fun j => Value.int (xs (t + 1 + j)))) = (asO xs t n).map (mv eM) from (asO_mv eM t n).symm]
  refine L_callM C0 hC d5 lM.1 lM.2.1 lM.2.2.1 (by rw [hlen]; exact lM.2.2.2) (Nat.le_of_ble_eq_true rfl) hR (fun r' τm ⟨hv, hRel⟩ => ?_)
  subst hv
  intro H locs ms hX hM hS hl
  rw [show pc + 1 + 5 * n + 3 + 1 + 5 * n + 3 = pc + 8 + 10 * n by omega]
  refine W.lcmp C0.1 C0.2.1 hc0 ?_
  have e0 : lg_cmp v v = 0 := by unfold lg_cmp; simp
  rw [e0]
  exact lv_if_eq (tgt := 1278) C0.1 C0.2.1 hc (by omega) (fun _ => kk τ τm hRel H locs ms hX hM hS hl) (fun z => absurd rfl z)
end LAW
section PP
variable {eX eM : EV} {σ σm : St2}
theorem P_spare (h : Rel σ σm) : Pr eX eM mX_spare mM_spare [] σ σm := by
  have hI := h.1.1
  refine X_spare h.1.2.2 hI (fun f τ w => ⟨_, rfl, R_spare hI (fun _ τm s => ⟨rfl, Rel_no (Rel_W h w s) 3 (by decide) _ rfl⟩) (fun v a1 a2 _ => absurd a2 (f v a1))⟩) (fun v a1 a2 a3 τ w => ⟨_, rfl, R_spare hI (fun g => absurd a2 (g v a1)) (fun v2 b1 b2 b3 τm s => ?_)⟩)
  have e : v2 = v := by
    rcases Nat.lt_trichotomy v2 v with z | z | z
    · exact absurd b2 (a3 _ z)
    · exact z
    · exact absurd a2 (b3 _ z)
  subst e
  exact ⟨rfl, Rel_W h w s⟩
end PP
