/-! the law's loop -/
section LP
variable {p : Program} {l : Launch} {e : Env} {s : State} {m : MethodId} {below : List Frame} {meth : Method} {c : Code} {b L : Nat} {xs : Nat → Int32} {eX eM : EV} {σ σm : St2} {t : Nat}
theorem d18 : decode code 18 = .ok (.iload_n 3, 1) ∧ decode code 19 = .ok (.aload_n 0, 1) ∧ decode code 20 = .ok (.arraylength, 1) ∧ decode code 21 = .ok (.bipush 6, 2) ∧ decode code 23 = .ok (.isub, 1) ∧ decode code 24 = .ok (.if_icmp .gt 1260, 3) := by decide +kernel
theorem d27 : decode code 27 = .ok (.aload_n 0, 1) ∧ decode code 28 = .ok (.iload_n 3, 1) ∧ decode code 29 = .ok (.iaload, 1) ∧ decode code 30 = .ok (.bipush 63, 2) ∧ decode code 32 = .ok (.iand, 1) := by decide +kernel
theorem d1278 : decode code 1278 = .ok (.iinc 3 6, 3) ∧ decode code 1281 = .ok (.goto (-1263), 3) ∧ decode code 1284 = .ok (.iconst 1, 1) ∧ decode code 1285 = .ok (.ireturn, 1) := by decide +kernel
def lawO : Array Int := #[203, 226, 259, 302, 335, 358, 371, 384, 407, 430, 453, 466, 489, 502, 515, 538, 551, 564, 577, 590, 603, 616, 639, 652, 665, 678, 702, 725, 748, 771, 794, 817, 840, 873, 886, 899, 932, 965, 1008, 1051, 1114, 1137, 1160, 1173, 1186, 1199, 1222]
theorem d33o : decode code 33 = .ok (.tableswitch 1245 0 46 lawO, 203) := d33
theorem neg6 : ∀ L, L < 6 → nI L - 6 < 0 := by decide
theorem cmp6 (hL : L ≤ 3072) (ht : t ≤ 3078) : (nI L - 6 < nI t) ↔ ¬ (t + 6 ≤ L) := by
  by_cases h : 6 ≤ L
  · rw [show (6 : Int32) = nI 6 from rfl, pk_sub h, nI_lt_iff (by omega) (by omega)]
    omega
  · have h1 := neg6 L (by omega)
    have h2 := nI_pos' (n := t) (by omega)
    exact ⟨fun _ => by omega, fun _ => Int32.lt_of_lt_of_le h1 h2⟩
theorem L_head (C0 : lw_At p s m meth c b L xs) (hL : L ≤ 3072) (ht : t ≤ 3078) (hy : t + 6 ≤ L → LW p l e s m below meth c b eX eM 27 (nI t) [] σ σm) : LW p l e s m below meth c b eX eM 18 (nI t) [] σ σm := by
  intro H locs ms hX hM hS hl
  have C1 := C0
  obtain ⟨hx, hb, hr, hml, hown, hts, hX0, hbl, hlocks, hgv⟩ := C0
  obtain ⟨d0, d1, d2, d3, d4, d5⟩ := d18
  obtain ⟨-, -, d6, d7⟩ := d1278
  refine lv_iload_n hx hb d0 rfl (lv_at hl 3 rfl) ?_
  refine lv_aload_n hx hb d1 rfl (lv_at hl 0 rfl) ?_
  refine va_slen hx hb hX0 hbl (Nat.not_le.mpr hbl) hS d2 ?_
  refine lv_bipush (v := 6) hx hb d3 rfl ?_
  refine lv_isub hx hb d4 ?_
  refine lv_icmp_gt (tgt := 1284) hx hb d5 (by decide) (fun _ => ?_) (fun h => ?_)
  · refine lv_iconst (v := 1) hx hb d6 (by decide) ?_
    refine va_forget (fun q hq => hS.2.2 q hq) ?_
    exact lw_ret hx hb hr hlocks d7
  · have h2 : t + 6 ≤ L := Classical.byContradiction (fun z => h ((cmp6 hL ht).mpr z))
    exact hy h2 H locs ms hX hM hS hl
theorem L_body (C0 : lw_At p s m meth c b L xs) (hC : LCx s eX eM) (hL : L ≤ 3072) (ht : t + 6 ≤ L) (h : Rel σ σm) (kk : ∀ τ τm, Rel τ τm → LW p l e s m below meth c b eX eM 18 (nI (t + 6)) [] τ τm) : LW p l e s m below meth c b eX eM 27 (nI t) [] σ σm := by
  have next : ∀ τ τm, Rel τ τm → LW p l e s m below meth c b eX eM 1278 (nI t) [] τ τm := fun τ τm hR H locs ms hX hM hS hl => by
    obtain ⟨d6, d7, -, -⟩ := d1278
    refine lv_iinc (v := nI (t + 6)) (lv' := [(3, .int (nI (t + 6))), (0, .ref b), (1, .ref (eX.1 0)), (2, .ref (eM.1 0))]) C0.1 C0.2.1 d6 hl (k := 3) rfl (by rw [show Int32.ofInt 6 = nI 6 from rfl, nI_add]) (by decide) rfl (fun ms' hl' => ?_)
    refine lv_goto (tgt := 18) C0.1 C0.2.1 d7 (by decide) ?_
    exact kk τ τm hR H locs ms' hX hM hS (lv_sub hl' [1, 2, 3, 0] rfl)
  intro H locs ms hX hM hS hl
  have C1 := C0
  obtain ⟨hx, hb, hr, hml, hown, hts, hX0, hbl, hlocks, hgv⟩ := C0
  obtain ⟨d0, d1, d2, d3, d4⟩ := d27
  refine lv_aload_n hx hb d0 rfl (lv_at hl 0 rfl) ?_
  refine lv_iload_n hx hb d1 rfl (lv_at hl 3 rfl) ?_
  refine va_sld hx hb hX0 hbl (Nat.not_le.mpr hbl) hS (vp_in_nI (show t < L by omega) (by omega)) d2 ?_
  refine lv_bipush (v := 63) hx hb d3 rfl ?_
  refine lv_iand hx hb d4 ?_
  obtain ⟨k, hk, ek⟩ := pk_andE (xs (nI t).toNatClampNeg) (m := 63) 6 (by decide)
  rw [ek]
  have hk : k < 64 := hk
  have eI : (nI k).toInt = (k : Int) := nI_toInt (by omega)
  by_cases h47 : k < 47
  · have all : ∀ k : Nat, k < 47 → ((lawT[k]?).isSome && decide (lawO[k]? = (lawT[k]?).map (fun q => (q : Int) - 33))) = true := by decide +kernel
    have h2 := all k h47
    simp only [Bool.and_eq_true, decide_eq_true_eq] at h2
    obtain ⟨q, e1⟩ := Option.isSome_iff_exists.mp h2.1
    have e2 : lawO[k]? = some ((q : Int) - 33) := by rw [h2.2, e1]; rfl
    have e3 : ((33 : Nat) : Int) + ((q : Int) - 33) = (q : Int) := by omega
    exact lv_tableIn hx hb d33o (by rw [eI]; omega) (by rw [eI]; omega) (by rw [eI, Int.sub_zero]; exact e2) e3 (op_all C1 hC hL ht h next k h47 q e1 H locs ms hX hM hS hl)
  · exact lv_tableOut (tgt := 1278) hx hb d33 (Or.inr (by rw [eI]; omega)) (by decide) (next σ σm h H locs ms hX hM hS hl)
theorem L_loop (C0 : lw_At p s m meth c b L xs) (hC : LCx s eX eM) (hL : L ≤ 3072) : ∀ (f t : Nat) (σ σm : St2), L < t + f → t ≤ 3078 → Rel σ σm → LW p l e s m below meth c b eX eM 18 (nI t) [] σ σm
  | 0, t, σ, σm, h0, ht, _ => L_head C0 hL ht (fun h => by omega)
  | f + 1, t, σ, σm, h0, ht, hR => L_head C0 hL ht (fun h => L_body C0 hC hL h hR (fun τ τm hR' => L_loop C0 hC hL f (t + 6) τ τm (by omega) (by omega) hR'))
end LP
