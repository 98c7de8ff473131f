/-! the law, from its entry -/
theorem g_inst : ∀ c : Nat, c < 7 → Cond.instantiable (clG c).1 (clG c).2.2 ∈ lwG := by decide +kernel
theorem g_nT : Cond.methodLinkNest "ChainedChest" 42 yT "ChainedChest" ∈ lw_tbl := by decide +kernel
theorem g_nS : Cond.methodLinkNest "ChainedChest" 61 yS "ChainedChest" ∈ lw_tbl := by decide +kernel
theorem g_oI : Cond.arrayOver (.array .int) ∈ lw_tbl := by decide +kernel
theorem g_oS : Cond.arrayOver (.object "ChainedChest$Sheet") ∈ lw_tbl := by decide +kernel
set_option maxRecDepth 20000 in
theorem g_cM : Cond.code ⟨"ChainedChestModel", "<init>", "()V"⟩ prog_8_method_1_code 2 none ∈ lwG := lwG_in (List.mem_append_right _ (List.mem_append_right _ (List.mem_append_right _ (List.mem_append_right _ (List.mem_append_right _ (List.mem_append_left _ (List.mem_of_getElem? (i := 8) rfl))))))) rfl
theorem kno_ex {args : Array Value} {s : State} (hts : ∀ w ∈ lwG, w.before args s = true) (ht : ∀ w ∈ lw_tbl, w.before args s = true) : ∃ (D : va_G) (cA : Nat → ClassId), ∀ f : Nat → Nat, Kno (f, D, cA) s := by
  have h1 : ∀ c : Nat, ∃ q : ClassId × (Nat → Nat), c < 7 → u_Kn s (clG c).1 (clG c).2.1 (clG c).2.2 q.1 q.2 := fun c => by
    by_cases hc : c < 7
    · obtain ⟨a, b, z⟩ := u_known hts (inG c hc) (hts _ (g_inst c hc))
      exact ⟨(a, b), fun _ => z⟩
    · exact ⟨(0, fun _ => 0), fun z => absurd z hc⟩
  obtain ⟨q, hq⟩ := Classical.axiomOfChoice h1
  obtain ⟨i0, iK, i1, e1, e2, e3⟩ := Cond.arrayClass_spec (hts _ aci)
  obtain ⟨c0, cK, c1, f1, f2, f3⟩ := Cond.arrayClass_spec (hts _ acc)
  obtain ⟨a0, a1, aK, g1, g2, g3, g4⟩ := Cond.arrayOver_specA (ht _ g_oI)
  obtain ⟨o0, o1, oK, k1, k2, k3, k4, k5⟩ := Cond.arrayOver_spec (ht _ g_oS)
  refine ⟨(fun c => (q c).1, fun c => (q c).2), fun k => if k = 100 then i0 else if k = 101 then c0 else if k = 102 then a1 else o1, fun f => ⟨fun c x hx => ?_, fun k x hx => ?_⟩⟩
  · have hc : c < 7 := (List.getElem?_eq_some_iff.mp hx).1
    have e : x = clG c := Option.some.inj (hx.symm.trans (clG_at c hc).1)
    subst e
    exact hq c hc
  · match k, hx with
    | 0, hx => cases hx; exact ⟨fun n z => ⟨(fun k h => by cases h), iK, e2, i1, e3⟩, e1⟩
    | 1, hx => cases hx; exact ⟨fun n z => ⟨(fun k h => by cases h), cK, f2, c1, f3⟩, f1⟩
    | 2, hx => cases hx; exact ⟨fun n z => ⟨(fun k h => by cases h), aK, g2, a0, g3⟩, g4⟩
    | 3, hx => cases hx; exact ⟨fun n z => ⟨(fun k h => by cases h), oK, k3, o0, k4⟩, oK, o0, k3, k4, k1, k5⟩
    | k + 4, hx => simp [tysG] at hx
section GO
variable {p : Program} {l : Launch} {e : Env} {s : State} {m : MethodId} {below : List Frame} {meth : Method} {c : Code} {b L : Nat} {xs : Nat → Int32} {pc : Nat}
theorem L_new {ev : EV} {ci i h kc ks : Nat} {Q : State → Prop} {H : Heap} {locs : List Loc} {ms : Array Slot} {st : List Value} (C0 : lw_At p s m meth c b L xs) (hK : Kno ev s) (hd : decode code pc = .ok (.new i, 3)) (hci : ci < 7) (hw : Cond.classLink R_law i (clG ci).1 ∈ lwG ∧ Cond.instantiable (clG ci).1 (cN ci) ∈ lwG ∧ Cond.initialized (clG ci).1 ∈ lwG) (hc : kc + 1 ≤ room_1.cells) (hs : ks + cN ci ≤ room_1.slots) (hH : H.size = h)
    (kk : ∀ H1 : Heap, BW ev.2.1 h [.inr (ci, zeroL ci)] H1 → (∀ q : Nat, q < h → H1[q]? = H[q]?) → W p l e room_1 s m #[Value.ref b] below meth c H1 locs (kc + 1) (ks + cN ci) Q (F0 m (pc + 3) ms (.ref h :: st))) : W p l e room_1 s m #[Value.ref b] below meth c H locs kc ks Q (F0 m pc ms st) := by
  obtain ⟨q1, q2, q3⟩ := clG_at ci hci
  have hts := lw_lwG C0
  have hKn := hK.1 ci _ q1
  refine W.newcK C0.1 C0.2.1 C0.2.2.2.2.1 (hts _ hw.1) (hts _ hw.2.1) (hts _ hw.2.2) rfl hd hc hs hKn.2.1 hH (fun H1 kC hkC e1 z1 o1 => kk H1 ⟨z1, fun j x hx => ?_⟩ o1)
  have hz : j < 1 := (List.getElem?_eq_some_iff.mp hx).1
  rw [show j = 0 by omega] at hx ⊢
  cases hx
  refine ⟨_, q1, (u_born (tyG ci) hts (inG ci hci) hKn hkC e1 (tyG_ok ci hci)).to (fun k hk => ?_)⟩
  rw [q2] at hk
  show _ = vp_V (zeroL ci) k
  unfold vp_V zeroL
  simp [hk]
theorem d0_law : decode code 0 = .ok (.new 7, 3) ∧ decode code 3 = .ok (.dup, 1) ∧ decode code 4 = .ok (.invokespecial 9, 3) ∧ decode code 7 = .ok (.astore_n 1, 1) ∧ decode code 8 = .ok (.new 10, 3) ∧ decode code 11 = .ok (.dup, 1) ∧ decode code 12 = .ok (.invokespecial 12, 3) ∧ decode code 15 = .ok (.astore_n 2, 1) ∧ decode code 16 = .ok (.iconst 0, 1) ∧ decode code 17 = .ok (.istore_n 3, 1) := by decide +kernel
theorem whole_start {p : Program} {e : Env} {s : State} {m : MethodId} {below : List Frame} {meth : Method} {c : Code} (l : Launch) (hflags : l.flags = flags0) {b L : Nat} {xs : Nat → Int32} (hL : L ≤ 3072) (C0 : lw_At p s m meth c b L xs) : W p l e room_1 s m #[Value.ref b] below meth c s.heap [] 0 0 (lw_Z below #[Value.ref b] s) (entryFrame m ([Value.ref b] : List Value).toArray 4) := by
  obtain ⟨hx, hb, hr, hml, hown, ht, hX0, hbl, hlocks, hgv⟩ := id C0
  have hts := lw_lwG C0
  obtain ⟨D, cA, hKn⟩ := kno_ex hts ht
  have hs : ∀ w ∈ flatC Gv, w.before #[Value.ref b] s = true := flat_of_before _ hgv
  obtain ⟨tA, adK, adV, tQ, hEx, hFR⟩ := ex_all hs ht D cA
  obtain ⟨d0, d3, d4, d7, d8, d11, d12, d15, d16, d17⟩ := d0_law
  generalize hh : s.heap.size = h at hEx hFR
  have hF : FR (tA 4) (fun q => h ≤ q) s s.heap := ⟨hFR, va_Nw.of rfl (ht _ g_nT), va_Nw.of rfl (ht _ g_nS), AI.of (ht _ g_oI), va_AO.of (ht _ g_oS)⟩
  have hKX := hKn (adX h tA adK adV tQ)
  have hKM := hKn (fun k => h + 63 + k)
  have hl := lv_entry ([.ref b]) (n := 4) (Nat.le_of_ble_eq_true rfl)
  rw [lg_entry_eq]
  generalize (lg_sl ([.ref b]) ++ List.replicate (4 - (lg_sl ([.ref b])).length) Slot.unset).toArray = ls at hl ⊢
  have hl : lv_has ls 4 [(0, .ref b)] := hl
  refine L_new (ev := evX h tA adK adV tQ D cA) (ci := 5) (i := 7) C0 hKX d0 (by decide) ⟨(lwG_at 76 (by decide +kernel)), (lwG_at 77 (by decide +kernel)), (lwG_at 61 (by decide +kernel))⟩ (by decide) (by decide) hh (fun H1 hB1 ho1 => ?_)
  refine lv_dup hx hb d3 rfl ?_
  have hS1 : va_S (fun q : Nat => h ≤ q) s.heap H1 [] := ⟨by rw [hh, hB1.1]; exact Nat.le_add_right _ _, fun q a1 a2 => ho1 q (by rw [← hh]; exact a1), fun q hq => by cases hq⟩
  refine ct_run (ev := evX h tA adK adV tQ D cA) (own := R_law) (nL := 4) (h := h) (h0 := h) (fr := tA 4) (i := 9) (j := 0) (as := []) (rest := [.ref h]) (L0 := []) hx hb hml hown hts hKX (hF.kept (fun q a1 a2 => hS1.2.1 q a1 a2)) (ct_X l (Nat.le_refl h)) d4 ⟨lwG_at 80 (by decide +kernel), (lwG_at 61 (by decide +kernel)), (lwG_at 79 (by decide +kernel))⟩ ⟨rfl, by decide, by show Option.map (fun d => d.parameters.length) (parseMethodDescriptor "()V") = some 0; decide +kernel⟩ (Or.inl (lwG_at 78 (by decide +kernel))) (by decide) (Nat.le_of_ble_eq_true rfl) (by decide) rfl hB1 hS1 hl.1 (fun H2 locs2 hB2 _ hS2 => ?_)
  have hB2 : BW D h (L_X (evX h tA adK adV tQ D cA) h) H2 := hB2
  refine lv_astore_n (lv' := [(1, .ref h), (0, .ref b)]) hx hb d7 rfl hl (by decide) rfl (fun ls hl => ?_)
  refine va_forget (fun q hq => by rw [hh]; exact hS2.2.2 q hq) ?_
  refine L_new (ev := evM (h + 63) D cA) (ci := 6) (i := 10) (h := h + 63) C0 hKM d8 (by decide) ⟨(lwG_at 1024 (by decide +kernel)), (lwG_at 1025 (by decide +kernel)), (lwG_at 69 (by decide +kernel))⟩ (by decide) (by decide) hB2.1 (fun H3 hB3 ho3 => ?_)
  refine lv_dup hx hb d11 rfl ?_
  have hS3 : va_S (fun q : Nat => h + 63 ≤ q) s.heap H3 [] := ⟨by rw [hh, hB3.1]; show h ≤ h + 63 + 1; omega, fun q a1 a2 => by rw [ho3 q (by rw [hh] at a1; omega)]; exact hS2.2.1 q a1 (by rw [hh] at a1; exact Nat.not_le.mpr a1), fun q hq => by cases hq⟩
  refine ct_run (ev := evM (h + 63) D cA) (own := R_law) (nL := 4) (h := h + 63) (h0 := h) (fr := tA 4) (i := 12) (j := 0) (as := []) (rest := [.ref (h + 63)]) (L0 := []) hx hb hml hown hts hKM (hF.kept (fun q a1 a2 => hS3.2.1 q a1 (fun z => a2 (by omega)))) (ct_M l (Nat.le_add_right h 63)) d12 ⟨g_cM, (lwG_at 69 (by decide +kernel)), (lwG_at 1027 (by decide +kernel))⟩ ⟨rfl, by decide, by show Option.map (fun d => d.parameters.length) (parseMethodDescriptor "()V") = some 0; decide +kernel⟩ (Or.inl (lwG_at 1026 (by decide +kernel))) (by decide) (Nat.le_of_ble_eq_true rfl) (by decide) rfl hB3 hS3 hl.1 (fun H4 locs4 hB4 ho4 hS4 => ?_)
  have hB4 : BW D (h + 63) (L_M (evM (h + 63) D cA) (h + 63)) H4 := hB4
  refine lv_astore_n (lv' := [(2, .ref (h + 63)), (1, .ref h), (0, .ref b)]) hx hb d15 rfl hl (by decide) rfl (fun ls hl => ?_)
  refine lv_iconst (v := 0) hx hb d16 (by decide) ?_
  refine lv_istore_n (lv' := [(3, .int 0), (2, .ref (h + 63)), (1, .ref h), (0, .ref b)]) hx hb d17 rfl hl (by decide) rfl (fun ls hl => ?_)
  refine W.widen (k := 600000) (n := 7302250) (by decide) (by decide) ?_
  have hE1 : Ex 1 (evM (h + 63) D cA) s s.heap := fun z => absurd z (by decide)
  have hC : LCx s (evX h tA adK adV tQ D cA) (evM (h + 63) D cA) := by
    refine ⟨⟨fun i j hi hj hij => ?_, hKX, hEx, fun k hk => ?_⟩, ⟨fun i j hi hj hij => ?_, hKM, hE1, fun k hk => ?_⟩, fun i j hi hj hij => ?_⟩
    · have hij : adX h tA adK adV tQ i = adX h tA adK adV tQ j := hij
      rw [adX_o hi, adX_o hj] at hij
      exact offX_i i hi j hj (by omega)
    · show _ ≤ adX h tA adK adV tQ k
      rw [adX_o hk, hh]
      exact Nat.le_add_right _ _
    · have hij : h + 63 + i = h + 63 + j := hij
      omega
    · show _ ≤ h + 63 + k
      rw [hh]
      omega
    · have hij : adX h tA adK adV tQ i = h + 63 + j := hij
      rw [adX_o hi] at hij
      have : offX i < 63 := (by decide +kernel : ∀ i : Nat, i < 63 → offX i < 63) i hi
      omega
  have hX2 := hldX hB2
  have hX4 : Hld 0 (evX h tA adK adV tQ D cA) sX0 H4 := hld_kept hX2 (fun k hk hlt => by
    have ek : adX h tA adK adV tQ k = h + offX k := adX_o hk
    have ho : offX k < 63 := (by decide +kernel : ∀ i : Nat, i < 63 → offX i < 63) k hk
    show H4[adX h tA adK adV tQ k]? = H2[adX h tA adK adV tQ k]?
    rw [ek, ho4 _ (by omega), ho3 _ (by omega)])
  exact L_loop C0 hC hL (L + 1) 0 sX0 sM0 (by omega) (by omega) Rel0 H4 locs4 ls hX4 (hldM hB4) (by rw [hh]; exact vaS_w hS4 (fun q hq => by omega)) (lv_sub hl [3, 2, 1, 0] rfl)
end GO
