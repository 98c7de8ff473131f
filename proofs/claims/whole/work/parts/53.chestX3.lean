/-! the class's chest: fridays, spots, sheets read -/
theorem bit_pcn {m j : Nat} (hj : j < 10) (hb : m.testBit j = true) : 0 < pcn m := by
  have h1 := pcU_mono m (show j + 1 ≤ 10 by omega)
  have h2 : pcU m (j + 1) = pcU m j + 1 := by
    show pcU m j + (if m.testBit j then 1 else 0) = _
    rw [if_pos hb]
  unfold pcn
  omega
theorem upF7 : ∀ s, s < 7 → upF s < 7 := by decide
section CW
variable {ev : EV} {σ : St2} {K : PO} {c : Nat} {S : Nat → Int32}
theorem X_tryFriday {n : Nat} (hc : CH c) (hX : XC σ c S) (hI : Inv S) (hn2 : n ≤ 20) (hk : ∀ r, XC (sr σ c r) c (friU n (shS S)).2 → K (some (.int (nI (friU n (shS S)).1))) (sr σ c r)) : Rn 0 ev mC_tryFriday [.ref c, .int (nI n)] σ K := by
  have hn10 := hI.1.2
  have hIs := Inv_sh hI
  have e0 : nv (shS S) 0 = 0 := by
    have : shS S 0 = nI 0 := by unfold shS; rw [updN (by decide), updS]; rfl
    exact nv_of this (by decide)
  have e3 : nv (shS S) 3 = nv S 3 := ag_nv (S := S) (S' := shS S) (fun i hi => by unfold shS; rw [updN (by omega), updN (by omega), updN (by omega)]) (by decide)
  refine Rn_V (by decide) (rcC hc) rfl rfl ?_
  refine PW_blk okC_tryFriday 0 rfl SpX_ok ?_
  simp only [wL0, wLc, true_and, w2, lg0, lgi, lgr, lgl, w54_1, q40, q41, q42, q43, q44, Option.toList_some, Option.toList_none, List.cons_append, List.nil_append, w9i, w9r, w0, w4, ls00, ls0i, ls0r, ls0l, lsi, lsr, lsl, Option.map_some, w71]
  refine X_shutAll hc hX hI (fun r0 hX0 => ?_)
  simp only [wL0, wLc, true_and, w2, lg0, lgi, lgr, lgl, w54_1, q40, q41, q42, q43, q44, Option.toList_some, Option.toList_none, List.cons_append, List.nil_append, w9i, w9r, w0, w4, ls00, ls0i, ls0r, ls0l, lsi, lsr, lsl, Option.map_some, w71]
  generalize hR : friU n (shS S) = R at hk
  have key : ∀ f i cm S' r, i + f = n → XC (sr σ c r) c S' → Inv S' → nv S' 3 = nv S 3 → nv S' 0 ≤ 130 * i → cm + (friU f S').1 = R.1 → (friU f S').2 = R.2 → PW 0 ev mC_tryFriday 9 [.ref c, .int (nI n), .int (nI cm), .int (nI i)] [] (sr σ c r) K := by
    intro f
    induction f with
    | zero =>
      intro i cm S' r hi hX' hI' h3 h0 hk1 hk2
      have e : i = n := by omega
      subst e
      refine PW_blk okC_tryFriday 1 rfl SpX_ok ?_
      simp only [wL0, wLc, true_and, w1, lg0, lgi, lgr, lgl, w81]
      refine b3N (nI_nlt (Nat.le_refl _) (by omega)) ?_
      refine PW_blk okC_tryFriday 11 rfl SpX_ok ?_
      simp only [wL0, wLc, true_and, w1, lg0, lgi, lgr, lgl, w84]
      have hk1 : cm + 0 = _ := hk1
      have hk2 : S' = _ := hk2
      rw [← hk2, ← hk1] at hk
      exact hk r hX'
    | succ f ih =>
      intro i cm S' r hi hX' hI' h3 h0 hk1 hk2
      have hG2 := hI'.2.1.1.2
      have hn3 := hI'.1.2
      have hT := p2le _ hn3
      have hml := mayN_lt S' (nv S' 2)
      have hlt : nv S' 2 < 1024 := by omega
      unfold friU at hk1 hk2
      have stop : (mayN S' (nv S' 2) = 0 ∨ outP S' (nv S' 2)) → K (some (.int (nI cm))) (sr σ c r) := by
        intro z
        rw [cif_y z] at hk1 hk2
        have hk1 : cm + 0 = _ := hk1
        have hk2 : S' = _ := hk2
        rw [← hk2, ← hk1] at hk
        exact hk r hX'
      refine PW_blk okC_tryFriday 1 rfl SpX_ok ?_
      simp only [wL0, wLc, true_and, w1, lg0, lgi, lgr, lgl, w81]
      refine b3Y (nI_lt (by omega) (by omega)) ?_
      refine PW_blk okC_tryFriday 2 rfl SpX_ok ?_
      simp only [wL0, wLc, true_and, w2, lg0, lgi, lgr, lgl, w33, CH_k hc, w54_2, q40, q41, q42, q43, q44, Option.toList_some, Option.toList_none, List.cons_append, List.nil_append, xp_C_isOutAt, CH_e hc, w73, x4 hX' hI', xr2 hX']
      by_cases c2 : outP S' (nv S' 2)
      · refine dY (if_pos c2) ?_
        refine PW_blk okC_tryFriday 11 rfl SpX_ok ?_
        simp only [wL0, wLc, true_and, w1, lg0, lgi, lgr, lgl, w84]
        exact stop (Or.inr c2)
      refine dN (if_neg c2) ?_
      refine PW_blk okC_tryFriday 3 rfl SpX_ok ?_
      simp only [wL0, wLc, true_and, w2, lg0, lgi, lgr, lgl, w33, CH_k hc, w54_2, q40, q41, q42, q43, q44, Option.toList_some, Option.toList_none, List.cons_append, List.nil_append, w4, ls00, ls0i, ls0r, ls0l, lsi, lsr, lsl, Option.map_some, w1, w55_1, xp_JI_bitCount, w73, x4 hX' hI']
      refine X_mayAt hc hX' hI' hlt ?_
      simp only [wL0, wLc, true_and, w2, lg0, lgi, lgr, lgl, w33, CH_k hc, w54_2, q40, q41, q42, q43, q44, Option.toList_some, Option.toList_none, List.cons_append, List.nil_append, w4, ls00, ls0i, ls0r, ls0l, lsi, lsr, lsl, Option.map_some, w1, w55_1, xp_JI_bitCount, w73, bcF_n (mayN S' (nv S' 2)) (by omega)]
      have hple := pcn_le (mayN S' (nv S' 2))
      rw [nI_z (by omega)]
      by_cases c1 : mayN S' (nv S' 2) = 0
      · refine ⟨fun z => absurd (by rw [c1]; exact pcn_0) z, fun _ => ?_⟩
        refine PW_blk okC_tryFriday 4 rfl SpX_ok ?_
        simp only [wL0, wLc, true_and, w1, lg0, lgi, lgr, lgl, w84]
        exact stop (Or.inl c1)
      rw [cif_n (fun z => z.elim c1 c2)] at hk1 hk2
      obtain ⟨j, hj, hb⟩ := bit_ex (show mayN S' (nv S' 2) < 1024 by omega) c1
      have hpp := bit_pcn hj hb
      refine ⟨fun _ => ?_, fun z => absurd z (by omega)⟩
      have hmod := Nat.mod_lt (drN (drZ (S' 9))) hpp
      have hd1 := drN_lt (drZ (S' 9))
      have hd2 := drN_lt (drZ (drZ (S' 9)))
      obtain ⟨hkb, hk10⟩ := nthF_ok (show mayN S' (nv S' 2) < 1024 by omega) hmod
      have hkn := (mayN_bit.mp hkb).1
      have ez : (sr σ c r).1 c 7 = S' 9 := hX'.1.2.2.2.2
      have hX9 := XC_9 (z := drZ (drZ (S' 9))) hX'
      rw [sr1, sr_sr] at hX9
      have hI9 := Inv_9 (v := drZ (drZ (S' 9))) hI'
      have n2 : nv (upd S' 9 (drZ (drZ (S' 9)))) 2 = nv S' 2 := nv_ne (by decide)
      have n3 : nv (upd S' 9 (drZ (drZ (S' 9)))) 3 = nv S' 3 := nv_ne (by decide)
      have n0 : nv (upd S' 9 (drZ (drZ (S' 9)))) 0 = nv S' 0 := nv_ne (by decide)
      rw [sr1] at ez
      refine PW_blk okC_tryFriday 5 rfl SpX_ok ?_
      simp only [wL0, wLc, true_and, w1, lg0, lgi, lgr, lgl, w2, w54_1, q40, q41, q42, q43, q44, Option.toList_some, Option.toList_none, List.cons_append, List.nil_append, xp_C_draw, CH_e hc, w15, w55_2, w4, ls00, ls0i, ls0r, ls0l, lsi, lsr, lsl, Option.map_some, w0, w54_3, w81, sr1, sr_sr, ez]
      refine ⟨fun z => ?_, ?_⟩
      · rw [nI_z (by omega)] at z; omega
      rw [pk_rem (by omega) hpp (by omega)]
      refine X_nth (by omega) hmod ?_
      simp only [wL0, wLc, true_and, w1, lg0, lgi, lgr, lgl, w2, w54_1, q40, q41, q42, q43, q44, Option.toList_some, Option.toList_none, List.cons_append, List.nil_append, xp_C_draw, CH_e hc, w15, w55_2, w4, ls00, ls0i, ls0r, ls0l, lsi, lsr, lsl, Option.map_some, w0, w54_3, w81, sr1, sr_sr, updS, fa_upd_twice]
      refine ⟨by decide, ?_⟩
      generalize hkk : nthF (mayN S' (nv S' 2)) (drN (drZ (S' 9)) % pcn (mayN S' (nv S' 2))) = k at *
      generalize hS1 : upd S' 9 (drZ (drZ (S' 9))) = S1 at *
      have et7 : S1 (tr k 7) = S' (tr k 7) := by rw [← hS1]; exact updN (by unfold tr; omega)
      have hw7 := (hI'.2.2.2.2.2.2.2.2.1 _ hkn).2.2.2.2.2.2.2.1
      have hw7l := hw7.2
      refine X_trait (w := 7) hc hX9 hI9 (by rw [n3]; exact hkn) (by decide) ?_
      simp only [wL0, wLc, true_and, w1, lg0, lgi, lgr, lgl, w2, w54_1, q40, q41, q42, q43, q44, Option.toList_some, Option.toList_none, List.cons_append, List.nil_append, xp_C_draw, CH_e hc, w15, w55_2, w4, ls00, ls0i, ls0r, ls0l, lsi, lsr, lsl, Option.map_some, w0, w54_3, w81]
      rw [show (10 : Int32) = nI 10 from rfl, pk_rem (by omega) (by decide) (by decide), et7, hw7.1, nI_lt_iff (by omega) (by omega)]
      by_cases c3 : drN (drZ (drZ (S' 9))) % 10 < nv S' (tr k 7)
      · rw [if_pos c3] at hk1 hk2
        refine b3Y c3 ?_
        refine PW_blk okC_tryFriday 6 rfl SpX_ok ?_
        simp only [wL0, wLc, true_and, w0, w70]
        refine PW_blk okC_tryFriday 8 rfl SpX_ok ?_
        simp only [wL0, wLc, true_and, w4, ls00, ls0i, ls0r, ls0l, lsi, lsr, lsl, Option.map_some, w1, lg0, lgi, lgr, lgl, w73]
        refine dY rfl ?_
        refine PW_blk okC_tryFriday 10 rfl SpX_ok ?_
        simp only [wL0, wLc, true_and, w7, lg0, lgi, lgr, lgl, ls00, ls0i, ls0r, ls0l, lsi, lsr, lsl, Option.map_some, w70]
        refine PW_loc 4 ?_
        rw [show (1 : Int32) = nI 1 from rfl, nI_add]
        exact ih (i + 1) cm S1 _ (by omega) hX9 hI9 (by rw [n3, h3]) (by rw [n0]; omega) hk1 hk2
      · rw [if_neg c3] at hk1 hk2
        refine b3N c3 ?_
        refine PW_blk okC_tryFriday 7 rfl SpX_ok ?_
        simp only [wL0, wLc, true_and, w0, w71]
        refine PW_blk okC_tryFriday 8 rfl SpX_ok ?_
        simp only [wL0, wLc, true_and, w4, ls00, ls0i, ls0r, ls0l, lsi, lsr, lsl, Option.map_some, w1, lg0, lgi, lgr, lgl, w73]
        refine b3Y trivial ?_
        have htk := takes_le hI9 (k := k) (o := nv S1 2) (by rw [n3]; exact hkn)
        obtain ⟨g1, g2, g3⟩ := Inv_stS hI9 (k := k) (by rw [n3]; exact hkn) (by rw [n0]; omega)
        refine PW_blk okC_tryFriday 9 rfl SpX_ok ?_
        simp only [wL0, wLc, true_and, w2, lg0, lgi, lgr, lgl, w1, w54_2, q40, q41, q42, q43, q44, Option.toList_some, Option.toList_none, List.cons_append, List.nil_append, w7, ls00, ls0i, ls0r, ls0l, lsi, lsr, lsl, Option.map_some, w71]
        refine X_step hc hX9 hI9 (by rw [n3]; exact hkn) (fun r' hX2 => ?_)
        rw [sr_sr] at hX2 ⊢
        simp only [wL0, wLc, true_and, w2, lg0, lgi, lgr, lgl, w1, w54_2, q40, q41, q42, q43, q44, Option.toList_some, Option.toList_none, List.cons_append, List.nil_append, w7, ls00, ls0i, ls0r, ls0l, lsi, lsr, lsl, Option.map_some, w71]
        refine PW_blk okC_tryFriday 10 rfl SpX_ok ?_
        simp only [wL0, wLc, true_and, w7, lg0, lgi, lgr, lgl, ls00, ls0i, ls0r, ls0l, lsi, lsr, lsl, Option.map_some, w70]
        refine PW_loc 4 ?_
        rw [show (1 : Int32) = nI 1 from rfl, nI_add, nI_add]
        refine ih (i + 1) (cm + 1) _ _ (by omega) hX2 g1 (by rw [ag_nv stS_ag (by decide), n3, h3]) (by rw [g3, n0]; omega) ?_ hk2
        rw [← hk1]
        show cm + 1 + (friU f (stS S1 k)).1 = cm + ((friU f (stS S1 k)).1 + 1)
        omega
  exact key n 0 0 (shS S) r0 (by omega) hX0 hIs e3 (by omega) (by rw [hR, Nat.zero_add]) (by rw [hR])
theorem X_putSpot {i : Nat} {v : Int32} (hc : CH c) (hi : i < 10) (hk : K none (sr σ (c + 13) (upd (σ.1 (c + 13)) i v))) : Rn 0 ev mC_putSpot [.ref c, .int (nI i), .int v] σ K := by
  refine Rn_V (by decide) (rcC hc) rfl rfl ?_
  refine PW_blk okC_putSpot 0 rfl SpX_ok ?_
  simp only [wL0, wLc, true_and, w1, lg0, lgi, lgr, lgl, w55_1, q40, q41, q42, q43, q44, Option.toList_some, Option.toList_none, List.cons_append, List.nil_append, xp_C_isSpot, w72]
  refine bY (in0Y (m := 10) (by decide) ⟨i, hi, rfl⟩) ?_
  refine PW_blk okC_putSpot 1 rfl SpX_ok ?_
  simp only [wL0, wLc, true_and, w2, lg0, lgi, lgr, lgl, w35, CH_k hc, CH_r2 hc, CH_sp hc, CH_spn hc, w1, w40, w71, v10 hi, c10 hi, si_is]
  refine PW_blk okC_putSpot 2 rfl SpX_ok ?_
  simp only [wL0, w87]
  exact hk
theorem X_atSpot {i : Nat} (hc : CH c) (hX : XC σ c S) (hi : i < 10) (hk : K (some (.int (S (110 + i)))) σ) : Rn 0 ev mC_atSpot [.ref c, .int (nI i)] σ K := by
  refine Rn_V (by decide) (rcC hc) rfl rfl ?_
  refine PW_blk okC_atSpot 0 rfl SpX_ok ?_
  simp only [wL0, wLc, true_and, w1, lg0, lgi, lgr, lgl, w55_1, q40, q41, q42, q43, q44, Option.toList_some, Option.toList_none, List.cons_append, List.nil_append, xp_C_isSpot, w72]
  refine bY (in0Y (m := 10) (by decide) ⟨i, hi, rfl⟩) ?_
  refine PW_blk okC_atSpot 1 rfl SpX_ok ?_
  simp only [wL0, wLc, true_and, w2, lg0, lgi, lgr, lgl, w35, CH_k hc, CH_r2 hc, CH_sp hc, CH_spn hc, w1, w39, w70, v10 hi, c10 hi, hX.2.2.1 i hi]
  refine PW_blk okC_atSpot 3 rfl SpX_ok ?_
  simp only [wL0, w84]
  exact hk
theorem X_heldSpots (hc : CH c) (hX : XC σ c S) (hI : Inv S) (hk : K (some (.int (nI (suU (fun k => if S (110 + k) < 0 then 0 else 1) 10)))) σ) : Rn 0 ev mC_heldSpots [.ref c] σ K := by
  have hn10 := hI.1.2
  refine Rn_V (by decide) (rcC hc) rfl rfl ?_
  refine PW_blk okC_heldSpots 0 rfl SpX_ok ?_
  simp only [wL0, wLc, true_and, w0, w4, ls00, ls0i, ls0r, ls0l, lsi, lsr, lsl, Option.map_some, w71]
  have key := lp_up (n := 10) (P := fun i => PW 0 ev mC_heldSpots 4 [.ref c, .int (nI (suU (fun k => if S (110 + k) < 0 then 0 else 1) i)), .int (nI i)] [] σ K) ?_ ?_ 0 (by decide)
  · exact key
  · refine PW_blk okC_heldSpots 1 rfl SpX_ok ?_
    simp only [wL0, wLc, true_and, w1, lg0, lgi, lgr, lgl, w0, w81]
    refine b3N (by decide) ?_
    refine PW_blk okC_heldSpots 5 rfl SpX_ok ?_
    simp only [wL0, wLc, true_and, w1, lg0, lgi, lgr, lgl, w84]
    exact hk
  · intro i hi ih
    have e1 : suU (fun k => if S (110 + k) < 0 then 0 else 1) (i + 1) = suU (fun k => if S (110 + k) < 0 then 0 else 1) i + (if S (110 + i) < 0 then 0 else 1) := rfl
    rw [e1] at ih
    refine PW_blk okC_heldSpots 1 rfl SpX_ok ?_
    simp only [wL0, wLc, true_and, w1, lg0, lgi, lgr, lgl, w0, w81]
    refine b3Y (nI_lt hi (by decide)) ?_
    refine PW_blk okC_heldSpots 2 rfl SpX_ok ?_
    simp only [wL0, wLc, true_and, w2, lg0, lgi, lgr, lgl, w35, CH_k hc, CH_r2 hc, CH_sp hc, CH_spn hc, w1, w39, w0, w78, v10 hi, c10 hi, hX.2.2.1 i hi]
    rcases hI.2.2.2.2.2.2.2.2.2 i hi with z | ⟨k, z1, z2⟩
    · rw [if_pos (by rw [z]; decide), Nat.add_zero] at ih
      refine b2Y z ?_
      refine PW_blk okC_heldSpots 4 rfl SpX_ok ?_
      simp only [wL0, wLc, true_and, w7, lg0, lgi, lgr, lgl, ls00, ls0i, ls0r, ls0l, lsi, lsr, lsl, Option.map_some, w70]
      rw [show (1 : Int32) = nI 1 from rfl, nI_add]
      exact ih
    · rw [if_neg (by rw [z2]; exact lt0 (by omega))] at ih
      refine b2N (by rw [z2]; exact m1_ne (by omega)) ?_
      refine PW_blk okC_heldSpots 3 rfl SpX_ok ?_
      simp only [wL0, wLc, true_and, w7, lg0, lgi, lgr, lgl, ls00, ls0i, ls0r, ls0l, lsi, lsr, lsl, Option.map_some, w71]
      refine PW_blk okC_heldSpots 4 rfl SpX_ok ?_
      simp only [wL0, wLc, true_and, w7, lg0, lgi, lgr, lgl, ls00, ls0i, ls0r, ls0l, lsi, lsr, lsl, Option.map_some, w70]
      rw [show (1 : Int32) = nI 1 from rfl, nI_add, nI_add]
      exact ih
theorem X_allTimes (hc : CH c) (hX : XC σ c S) (hI : Inv S) (hk : K (some (.int (nI (suU (fun k => nv S (tr k 1)) (nv S 3))))) σ) : Rn 0 ev mC_allTimes [.ref c] σ K := by
  have hn10 := hI.1.2
  refine Rn_V (by decide) (rcC hc) rfl rfl ?_
  refine PW_blk okC_allTimes 0 rfl SpX_ok ?_
  simp only [wL0, wLc, true_and, w0, w4, ls00, ls0i, ls0r, ls0l, lsi, lsr, lsl, Option.map_some, w71]
  have key := lp_up (n := nv S 3) (P := fun i => PW 0 ev mC_allTimes 4 [.ref c, .int (nI (suU (fun k => nv S (tr k 1)) i)), .int (nI i)] [] σ K) ?_ ?_ 0 (Nat.zero_le _)
  · exact key
  · refine PW_blk okC_allTimes 1 rfl SpX_ok ?_
    simp only [wL0, wLc, true_and, w1, lg0, lgi, lgr, lgl, w2, w33, CH_k hc, w81, x3 hX hI]
    refine b3N (nI_nlt (Nat.le_refl _) (by omega)) ?_
    refine PW_blk okC_allTimes 4 rfl SpX_ok ?_
    simp only [wL0, wLc, true_and, w1, lg0, lgi, lgr, lgl, w84]
    exact hk
  · intro i hi ih
    have hi10 : i < 10 := by omega
    have hK := hI.2.2.2.2.2.2.2.2.1 i hi
    have e1 : suU (fun k => nv S (tr k 1)) (i + 1) = suU (fun k => nv S (tr k 1)) i + nv S (tr i 1) := rfl
    rw [e1] at ih
    refine PW_blk okC_allTimes 1 rfl SpX_ok ?_
    simp only [wL0, wLc, true_and, w1, lg0, lgi, lgr, lgl, w2, w33, CH_k hc, w81, x3 hX hI]
    refine b3Y (nI_lt hi (by omega)) ?_
    refine PW_blk okC_allTimes 2 rfl SpX_ok ?_
    simp only [wL0, wLc, true_and, w1, lg0, lgi, lgr, lgl, w0, w81]
    refine b3Y (nI_lt hi10 (by decide)) ?_
    refine PW_blk okC_allTimes 3 rfl SpX_ok ?_
    simp only [wL0, wLc, true_and, w1, lg0, lgi, lgr, lgl, w2, w35, CH_k hc, CH_r0 hc, CH_t hc, CH_tn hc, w0, w42, w39, w11, w4, ls00, ls0i, ls0r, ls0l, lsi, lsr, lsl, Option.map_some, w7, tn1, vi1_10, CH_f1 hc, CH_a1 hc, CH_n1 hc, w70, v10 hi10, c10 hi10, xt1 hX hi, hK.2.1.1.1]
    rw [show (1 : Int32) = nI 1 from rfl, nI_add, nI_add]
    exact ih
theorem X_isUnder {s d : Nat} (hs : s < 7) (hd : d < 7) (hk : K (some (.int (if isU 3 s d = true then 1 else 0))) σ) : Rn 0 ev mC_isUnder [.int (nI s), .int (nI d)] σ K := by
  have ua : ∀ s, s < 7 → ∀ d, d < 7 → isU 3 s d = (s == d || (s != 0 && isU 3 (upF s) d)) := by decide +kernel
  have u6 : ∀ s, s < 7 → upF (upF (upF s)) = 0 := by decide
  refine Rn_S (by decide) rfl rfl rfl ?_
  refine PW_blk okC_isUnder 0 rfl SpX_ok ?_
  simp only [wL0, wLc, true_and, w1, lg0, lgi, lgr, lgl, w4, ls00, ls0i, ls0r, ls0l, lsi, lsr, lsl, Option.map_some, w0, w71]
  have gone : (isU 3 s d = false) → ∀ i k, i ≤ 7 → PW 0 ev mC_isUnder 4 [.int (nI s), .int (nI d), .int (-1), .int k] [] σ K := by
    intro hf i k _
    rw [hf, if_neg (by decide)] at hk
    have no : PW 0 ev mC_isUnder 36 [.int (nI s), .int (nI d), .int (-1), .int k] [] σ K := by
      refine PW_blk okC_isUnder 6 rfl SpX_ok ?_
      simp only [wL0, wLc, true_and, w0, w85]
      exact ⟨Or.inl trivial, hk⟩
    refine PW_blk okC_isUnder 1 rfl SpX_ok ?_
    simp only [wL0, wLc, true_and, w1, lg0, lgi, lgr, lgl, w0, w81]
    by_cases c1 : k < 7
    · refine b3Y c1 ?_
      refine PW_blk okC_isUnder 2 rfl SpX_ok ?_
      simp only [wL0, wLc, true_and, w1, lg0, lgi, lgr, lgl, w55_1, q40, q41, q42, q43, q44, Option.toList_some, Option.toList_none, List.cons_append, List.nil_append, xp_C_isKind, w72]
      exact bN rfl no
    · exact b3N c1 no
  have step : ∀ i t, i < 6 → t < 7 → isU 3 t d = isU 3 s d → (t ≠ d → t ≠ 0 → PW 0 ev mC_isUnder 4 [.int (nI s), .int (nI d), .int (nI (upF t)), .int (nI (i + 1))] [] σ K) → PW 0 ev mC_isUnder 4 [.int (nI s), .int (nI d), .int (nI t), .int (nI i)] [] σ K := by
    intro i t hi ht he hn
    refine PW_blk okC_isUnder 1 rfl SpX_ok ?_
    simp only [wL0, wLc, true_and, w1, lg0, lgi, lgr, lgl, w0, w81]
    refine b3Y (nI_lt (show i < 7 by omega) (by decide)) ?_
    refine PW_blk okC_isUnder 2 rfl SpX_ok ?_
    simp only [wL0, wLc, true_and, w1, lg0, lgi, lgr, lgl, w55_1, q40, q41, q42, q43, q44, Option.toList_some, Option.toList_none, List.cons_append, List.nil_append, xp_C_isKind, w72]
    refine bY (in0Y (m := 7) (by decide) ⟨t, ht, rfl⟩) ?_
    refine PW_blk okC_isUnder 3 rfl SpX_ok ?_
    simp only [wL0, wLc, true_and, w1, lg0, lgi, lgr, lgl, w79]
    rw [nI_eq_iff (by omega) (by omega)]
    have hu := ua t ht d hd
    by_cases e : t = d
    · refine b3Y e ?_
      refine PW_blk okC_isUnder 4 rfl SpX_ok ?_
      simp only [wL0, wLc, true_and, w0, w85]
      have : isU 3 s d = true := by rw [← he, hu, e]; simp
      rw [this, if_pos rfl] at hk
      exact ⟨Or.inr trivial, hk⟩
    refine b3N e ?_
    refine PW_blk okC_isUnder 5 rfl SpX_ok ?_
    simp only [wL0, wLc, true_and, w45, w1, lg0, lgi, lgr, lgl, w44, w4, ls00, ls0i, ls0r, ls0l, lsi, lsr, lsl, Option.map_some, w7, w70, sg205, sn205, eq_true (vp_in_nI ht (by decide)), c10 (show t < 10 by omega), cst205 t ht]
    by_cases z : t = 0
    · rw [if_pos z]
      have : isU 3 s d = false := by
        rw [← he, hu, z]
        rw [z] at e
        simp [e, Ne.symm e]
      exact gone this 0 _ (by decide)
    · rw [if_neg z, show (1 : Int32) = nI 1 from rfl, nI_add]
      exact hn e z
  have he1 : ∀ t, t < 7 → t ≠ d → t ≠ 0 → isU 3 (upF t) d = isU 3 t d := fun t ht h1 h2 => (isU_s t ht d hd h2 h1).symm
  refine step 0 s (by decide) hs rfl (fun a1 a2 => ?_)
  have b1 := upF7 s hs
  have d1 := he1 s hs a1 a2
  refine step 1 _ (by decide) b1 d1 (fun a3 a4 => ?_)
  have b2 := upF7 _ b1
  have d2 := (he1 _ b1 a3 a4).trans d1
  refine step 2 _ (by decide) b2 d2 (fun a5 a6 => ?_)
  have b3 := upF7 _ b2
  have d3 := (he1 _ b2 a5 a6).trans d2
  refine step 3 _ (by decide) b3 d3 (fun a7 a8 => ?_)
  exact absurd (u6 s hs) a8
/-! sheets -/
theorem v40 {k : Nat} (h : k < 40) : vp_in (nI k) 40 = True := eq_true (vp_in_nI h (by decide))
theorem c40 {k : Nat} (h : k < 40) : (nI k).toNatClampNeg = k := nI_clamp (by omega)
theorem X_number {n i : Nat} (hs : SH c) (h2 : σ.1 c 2 = nI n) (hn : n ≤ 40) (hi : i < n) (hk : K (some (.int (σ.1 (c + 1) i))) σ) : Rn 0 ev mS_number [.ref c, .int (nI i)] σ K := by
  refine Rn_V (by decide) (rcH hs) rfl rfl ?_
  refine PW_blk okS_number 0 rfl SpX_ok ?_
  simp only [wL0, wLc, true_and, w2, lg0, lgi, lgr, lgl, w1, w54_2, q40, q41, q42, q43, q44, Option.toList_some, Option.toList_none, List.cons_append, List.nil_append, xp_S_has, SH_e hs, w72, h2]
  refine bY (hasY (m := 40) hn (by decide) ⟨i, hi, rfl⟩) ?_
  refine PW_blk okS_number 1 rfl SpX_ok ?_
  simp only [wL0, wLc, true_and, w2, lg0, lgi, lgr, lgl, w35, SH_k hs, SH_r hs, SH_a hs, SH_n hs, w1, w39, w70, v40 (show i < 40 by omega), c40 (show i < 40 by omega)]
  refine PW_blk okS_number 3 rfl SpX_ok ?_
  simp only [wL0, w84]
  exact hk
theorem X_number0 {n : Nat} {v : Int32} (hs : SH c) (h2 : σ.1 c 2 = nI n) (hn : n ≤ 40) (hi : ¬ ∃ i, i < n ∧ v = nI i) (hk : K (some (.int 0)) σ) : Rn 0 ev mS_number [.ref c, .int v] σ K := by
  refine Rn_V (by decide) (rcH hs) rfl rfl ?_
  refine PW_blk okS_number 0 rfl SpX_ok ?_
  simp only [wL0, wLc, true_and, w2, lg0, lgi, lgr, lgl, w1, w54_2, q40, q41, q42, q43, q44, Option.toList_some, Option.toList_none, List.cons_append, List.nil_append, xp_S_has, SH_e hs, w72, h2]
  refine bN (hasN (m := 40) hn (by decide) hi) ?_
  refine PW_blk okS_number 2 rfl SpX_ok ?_
  simp only [wL0, wLc, true_and, w0, w71]
  refine PW_blk okS_number 3 rfl SpX_ok ?_
  simp only [wL0, w84]
  exact hk
theorem X_fill {k n : Nat} {v : Int32} (hk1 : (k < nC 0 ∧ (shp 0 k).1 = 100) = True) (hn : (shp 0 k).2 = n) (hn2 : n ≤ 2000) (hk : ∀ r, (∀ t, t < n → r t = v) → (∀ t, n ≤ t → r t = σ.1 k t) → K none (sr σ k r)) : Rn 0 ev mJA_fill [.ref k, .int v] σ K := by
  have hk2 : (k < nC 0 ∧ ((shp 0 k).1 = 100 ∨ (shp 0 k).1 = 101)) = True := eq_true ⟨(of_eq_true hk1).1, Or.inl (of_eq_true hk1).2⟩
  refine Rn_S (by decide) rfl rfl rfl ?_
  refine PW_blk okJA_fill 0 rfl SpX_ok ?_
  simp only [wL0, wLc, true_and, w0, w4, ls00, ls0i, ls0r, ls0l, lsi, lsr, lsl, Option.map_some, w2, lg0, lgi, lgr, lgl, w43, w71, hk2, hn]
  have key := lp_up (n := n) (P := fun i => PW 0 ev mJA_fill 5 [.ref k, .int v, .int (nI i), .int (nI n)] [] (sr σ k (fa_fill (fun _ => v) (σ.1 k) i)) K) ?_ ?_ 0 (Nat.zero_le _)
  · rw [fa_fill_0, sr_self] at key
    exact key
  · refine PW_blk okJA_fill 1 rfl SpX_ok ?_
    simp only [wL0, wLc, true_and, w1, lg0, lgi, lgr, lgl, w81]
    refine b3N (nI_nlt (Nat.le_refl _) (by omega)) ?_
    refine PW_blk okJA_fill 3 rfl SpX_ok ?_
    simp only [wL0, w87]
    exact hk _ (fun t ht => fa_fill_in ht) (fun t ht => fa_fill_out ht)
  · intro i hi ih
    refine PW_blk okJA_fill 1 rfl SpX_ok ?_
    simp only [wL0, wLc, true_and, w1, lg0, lgi, lgr, lgl, w81]
    refine b3Y (nI_lt hi (by omega)) ?_
    refine PW_blk okJA_fill 2 rfl SpX_ok ?_
    simp only [wL0, wLc, true_and, w2, lg0, lgi, lgr, lgl, w1, w40, w7, ls00, ls0i, ls0r, ls0l, lsi, lsr, lsl, Option.map_some, w70, hk1, hn, eq_true (vp_in_nI hi (by omega)), nI_clamp (show i < 2 ^ 31 by omega), si_sr]
    rw [show (1 : Int32) = nI 1 from rfl, nI_add]
    have e := fa_fill_succ (fun _ => v) (σ.1 k) i
    rw [e]
    exact ih
theorem X_begin {m : Nat} {b : Int32} (hs : SH c) (hm : m ≤ 40) (hk : ∀ r2, (∀ t, t < 40 → r2 t = 0) → K (some (.int (if b = 0 then 0 else nI m))) (sr (sr σ c (upd (upd (σ.1 c) 1 b) 2 (if b = 0 then 0 else nI m))) (c + 1) r2)) : Rn 0 ev mS_begin [.ref c, .int b, .int (nI m)] σ K := by
  refine Rn_V (by decide) (rcH hs) rfl rfl ?_
  have fin : ∀ x : Int32, x = (if b = 0 then 0 else nI m) → PW 0 ev mS_begin 24 [.ref c, .int b, .int (nI m)] [.int x, .ref c] (sr σ c (upd (σ.1 c) 1 b)) K := by
    intro x hx
    subst hx
    refine PW_blk okS_begin 3 rfl SpX_ok ?_
    simp only [wL0, wLc, true_and, w36, SH_k hs, w2, lg0, lgi, lgr, lgl, w35, SH_r hs, SH_a hs, SH_n hs, w0, w55_2, q40, q41, q42, q43, q44, Option.toList_some, Option.toList_none, List.cons_append, List.nil_append, w33, w84, si_is, sr1, sr_sr]
    refine X_fill (n := 40) (SH_a hs) (SH_n hs) (by decide) (fun r2 h1 _ => ?_)
    simp only [wL0, wLc, true_and, w36, SH_k hs, w2, lg0, lgi, lgr, lgl, w35, SH_r hs, SH_a hs, SH_n hs, w0, w55_2, q40, q41, q42, q43, q44, Option.toList_some, Option.toList_none, List.cons_append, List.nil_append, w33, w84, sr1n (show c ≠ c + 1 by omega), sr1, updS]
    exact hk r2 h1
  refine PW_blk okS_begin 0 rfl SpX_ok ?_
  simp only [wL0, wLc, true_and, w2, lg0, lgi, lgr, lgl, w1, w36, SH_k hs, w73, si_is]
  by_cases hb : b = 0
  · rw [if_pos hb] at fin
    refine b3Y hb ?_
    refine PW_blk okS_begin 1 rfl SpX_ok ?_
    simp only [wL0, wLc, true_and, w0, w70]
    exact fin 0 rfl
  · rw [if_neg hb] at fin
    refine b3N hb ?_
    refine PW_blk okS_begin 2 rfl SpX_ok ?_
    simp only [wL0, wLc, true_and, w0, w1, lg0, lgi, lgr, lgl, w57, q40, q41, q42, q43, q44, w58, w71]
    have e1 : (if (40 : Int32) < nI m then (40 : Int32) else nI m) = nI m := if_neg (nI_nlt (a := 40) (b := m) hm (by decide))
    rw [e1]
    have e2 : (if (0 : Int32) < nI m then nI m else 0) = nI m := by
      by_cases z : (0 : Int32) < nI m
      · rw [if_pos z]
      · rw [if_neg z]
        rw [show (0 : Int32) = nI 0 from rfl, nI_lt_iff (by decide) (by omega)] at z
        rw [show m = 0 by omega]
        rfl
    rw [e2]
    exact fin _ rfl
theorem X_put {n i : Nat} {v : Int32} (hs : SH c) (h2 : σ.1 c 2 = nI n) (hn : n ≤ 40) (hi : i < n) (hk : K none (sr σ (c + 1) (upd (σ.1 (c + 1)) i (nrw (σ.1 c 1) v)))) : Rn 0 ev mS_put [.ref c, .int (nI i), .int v] σ K := by
  have hi40 : i < 40 := by omega
  refine Rn_V (by decide) (rcH hs) rfl rfl ?_
  have fin : ∀ x : Int32, x = nrw (σ.1 c 1) v → PW 0 ev mS_put 42 [.ref c, .int (nI i), .int v] [.int x, .int (nI i), .ref (c + 1)] σ K := by
    intro x hx
    subst hx
    refine PW_blk okS_put 6 rfl SpX_ok ?_
    simp only [wL0, wLc, true_and, w40, w71, SH_a hs, SH_n hs, v40 hi40, c40 hi40, si_is]
    refine PW_blk okS_put 7 rfl SpX_ok ?_
    simp only [wL0, w87]
    exact hk
  unfold nrw at fin
  refine PW_blk okS_put 0 rfl SpX_ok ?_
  simp only [wL0, wLc, true_and, w2, lg0, lgi, lgr, lgl, w1, w54_2, q40, q41, q42, q43, q44, Option.toList_some, Option.toList_none, List.cons_append, List.nil_append, xp_S_has, SH_e hs, w72, h2]
  refine bY (hasY (m := 40) hn (by decide) ⟨i, hi, rfl⟩) ?_
  refine PW_blk okS_put 1 rfl SpX_ok ?_
  simp only [wL0, wLc, true_and, w2, lg0, lgi, lgr, lgl, w35, SH_k hs, SH_r hs, SH_a hs, SH_n hs, w1, w33, w0, w79]
  by_cases h8 : σ.1 c 1 = 8
  · rw [if_pos h8] at fin
    refine b3Y h8 ?_
    refine PW_blk okS_put 2 rfl SpX_ok ?_
    simp only [wL0, wLc, true_and, w1, lg0, lgi, lgr, lgl, w30, w70]
    exact fin _ rfl
  rw [if_neg h8] at fin
  refine b3N h8 ?_
  refine PW_blk okS_put 3 rfl SpX_ok ?_
  simp only [wL0, wLc, true_and, w2, lg0, lgi, lgr, lgl, w33, SH_k hs, w0, w79]
  by_cases h16 : σ.1 c 1 = 16
  · rw [if_pos h16] at fin
    refine b3Y h16 ?_
    refine PW_blk okS_put 4 rfl SpX_ok ?_
    simp only [wL0, wLc, true_and, w1, lg0, lgi, lgr, lgl, w31, w70]
    exact fin _ rfl
  rw [if_neg h16] at fin
  refine b3N h16 ?_
  refine PW_blk okS_put 5 rfl SpX_ok ?_
  simp only [wL0, wLc, true_and, w1, lg0, lgi, lgr, lgl, w71]
  exact fin _ rfl
theorem hrY {n a q : Nat} (hn : n ≤ 40) (h : a + q ≤ n) : hrF (nI n) (nI a) (nI q) = 1 := by
  unfold hrF
  rw [if_neg (lt0 (by omega)), if_neg (lt0 (by omega)), if_neg (nI_nlt (by omega) (by omega)), pk_sub (by omega), if_neg (nI_nlt (by omega) (by omega))]
theorem hrN {n : Nat} {a q : Int32} (hn : n ≤ 40) (h : ¬ ∃ x y, a = nI x ∧ q = nI y ∧ x + y ≤ n) : hrF (nI n) a q = 0 := by
  unfold hrF
  by_cases h1 : a < 0
  · rw [if_pos h1]
  rw [if_neg h1]
  by_cases h2 : q < 0
  · rw [if_pos h2]
  rw [if_neg h2]
  obtain ⟨x, hx, rfl⟩ := ge0 h1
  obtain ⟨y, hy, rfl⟩ := ge0 h2
  by_cases h3 : nI n < nI x
  · rw [if_pos h3]
  rw [if_neg h3]
  rw [nI_lt_iff (by omega) (by omega)] at h3
  rw [pk_sub (by omega), if_pos]
  rw [nI_lt_iff (by omega) (by omega)]
  refine Classical.byContradiction (fun z => h ⟨x, y, rfl, rfl, by omega⟩)
end CW
