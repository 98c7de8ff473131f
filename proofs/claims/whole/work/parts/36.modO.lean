/-! fits, maybe, surely, hear; draws, friday, seed -/
noncomputable def alU (a : Nat) (P : Nat → Prop) : Nat → Nat
  | 0 => a
  | t + 1 => cif (P t) (alU a P t &&& t) (alU a P t)
def hcC (σ : St2) (j : Nat) : Nat → Int32 := fun i => σ.1 15 (40 * j + i)
noncomputable def hcT (σ : St2) (j t : Nat) : Nat := hcL (σ.1 1) (hcC σ j) (m8 (nv (σ.1 14) j)) (m8 (nv (σ.1 14) j)) t
theorem hcL_small {S : Nat → Int32} {C : Nat → Int32} {m i t : Nat} (hI : Inv S) (ht : t < 1024) : hcL S C m i t ≤ 3628800 := by
  have h := hI.2.1.1.2
  unfold hcL hc
  by_cases c : pcn t = pcn (nv S 2) + i
  · rw [cif_y c]; exact fw_small (okH_p hI.1.2) (by omega) ht
  · rw [cif_n c]; exact Nat.zero_le _
def clF (m : Nat) : Nat → Nat
  | 0 => m
  | i + 1 => clF m i &&& (clF m i - 1)
def loU (m : Nat) : Nat → Nat → Nat
  | 0, k => k
  | f + 1, k => if m.testBit k then k else loU m f (k + 1)
def nthF (m n : Nat) : Nat := loU (clF m n) 10 0
theorem clF_ok {m : Nat} (hm : m < 1024) : ∀ i, i ≤ pcn m → clF m i < 1024 ∧ pcn (clF m i) + i = pcn m ∧ (∀ k, (clF m i).testBit k = true → m.testBit k = true)
  | 0, _ => ⟨hm, rfl, fun _ h => h⟩
  | i + 1, h => by
    obtain ⟨h1, h2, h3⟩ := clF_ok hm i (by omega)
    have hp : 0 < clF m i := by
      rcases Nat.eq_zero_or_pos (clF m i) with z | z
      · rw [z, pcn_0] at h2; omega
      · exact z
    obtain ⟨q1, q2⟩ := pcn_drop (clF m i) h1 hp
    refine ⟨q2, ?_, fun k hk => h3 k ?_⟩
    · show pcn (clF m i &&& (clF m i - 1)) + (i + 1) = _
      omega
    · have hk2 : (clF m i &&& (clF m i - 1)).testBit k = true := hk
      rw [Nat.testBit_and] at hk2
      exact (Bool.and_eq_true _ _ ▸ hk2).1
theorem loU_ok {m : Nat} : ∀ f k, (∃ j, k ≤ j ∧ j < k + f ∧ m.testBit j = true) → m.testBit (loU m f k) = true ∧ loU m f k < k + f
  | 0, k, ⟨j, a, b, c⟩ => by omega
  | f + 1, k, ⟨j, a, b, c⟩ => by
    unfold loU
    by_cases h : m.testBit k = true
    · rw [if_pos h]; exact ⟨h, by omega⟩
    · rw [if_neg h]
      have hj : j ≠ k := fun e => h (e ▸ c)
      have := loU_ok f (k + 1) ⟨j, by omega, by omega, c⟩
      exact ⟨this.1, by omega⟩
theorem bit_ex {m : Nat} (hm : m < 1024) (h0 : m ≠ 0) : ∃ j, j < 10 ∧ m.testBit j = true := by
  refine Classical.byContradiction (fun h => h0 ?_)
  apply Nat.eq_of_testBit_eq
  intro i
  rw [Nat.zero_testBit]
  by_cases hi : i < 10
  · cases e : m.testBit i with
    | false => rfl
    | true => exact absurd ⟨i, hi, e⟩ h
  · exact Nat.testBit_lt_two_pow (Nat.lt_of_lt_of_le hm (Nat.le_trans (by decide : 1024 ≤ 2 ^ 10) (Nat.pow_le_pow_right (by decide) (by omega))))
theorem nthF_ok {m n : Nat} (hm : m < 1024) (hn : n < pcn m) : m.testBit (nthF m n) = true ∧ nthF m n < 10 := by
  obtain ⟨h1, h2, h3⟩ := clF_ok hm n (by omega)
  obtain ⟨j, a, b⟩ := bit_ex h1 (fun z => by rw [z, pcn_0] at h2; omega)
  have := loU_ok (m := clF m n) 10 0 ⟨j, Nat.zero_le _, by omega, b⟩
  exact ⟨h3 _ this.1, by unfold nthF; omega⟩
def drZ (z : Int32) : Int32 := z * 1103515245 + 12345
def drN (z : Int32) : Nat := z.toBitVec.toNat / 256
theorem nI_tb (x : Int32) : nI x.toBitVec.toNat = x := by
  apply Int32.toBitVec_inj.mp
  show BitVec.ofNat 32 x.toBitVec.toNat = x.toBitVec
  rw [BitVec.ofNat_toNat, BitVec.setWidth_eq]
theorem drN_I (z : Int32) : (z.toUInt32 >>> ((8 : Int32).toUInt32 &&& Int32.toUInt32 31)).toInt32 = nI (drN z) := by
  have h := pk_ushr z 8 8 (by decide)
  rw [← nI_tb ((z.toUInt32 >>> ((8 : Int32).toUInt32 &&& Int32.toUInt32 31)).toInt32), h]
  rfl
theorem drN_lt (z : Int32) : drN z < 16777216 := by
  have := z.toBitVec.isLt
  unfold drN
  omega
noncomputable def friU : Nat → (Nat → Int32) → Nat × (Nat → Int32)
  | 0, S => (0, S)
  | f + 1, S => cif (mayN S (nv S 2) = 0 ∨ outP S (nv S 2)) (0, S)
      (if drN (drZ (drZ (S 9))) % 10 < nv S (tr (nthF (mayN S (nv S 2)) (drN (drZ (S 9)) % pcn (mayN S (nv S 2)))) 7) then friU f (upd S 9 (drZ (drZ (S 9))))
        else ((friU f (stS (upd S 9 (drZ (drZ (S 9)))) (nthF (mayN S (nv S 2)) (drN (drZ (S 9)) % pcn (mayN S (nv S 2)))))).1 + 1, (friU f (stS (upd S 9 (drZ (drZ (S 9)))) (nthF (mayN S (nv S 2)) (drN (drZ (S 9)) % pcn (mayN S (nv S 2)))))).2))
theorem Inv_9 {S : Nat → Int32} {v : Int32} (hI : Inv S) : Inv (upd S 9 v) := by
  have e3 : nv (upd S 9 v) 3 = nv S 3 := nv_ne (by decide)
  obtain ⟨a, b, c, d, e, ⟨f, f'⟩, g, h, i, j⟩ := hI
  refine ⟨rg_ne (by decide) a, ⟨rg_ne (by decide) b.1, by rw [e3, nv_ne (by decide)]; exact b.2⟩, rg_ne (by decide) c, rg_ne (by decide) d, rg_ne (by decide) e, ⟨rg_ne (by decide) f, by rw [e3, nv_ne (by decide)]; exact f'⟩, rg_ne (by decide) g, rg_ne (by decide) h, ?_, ?_⟩
  · rw [e3]
    exact fun k hk => InvK_ne (fun q _ => by unfold tr; omega) (i k hk)
  · rw [e3]
    intro q hq
    rw [updN (by omega)]
    exact j q hq
def shS (S : Nat → Int32) : Nat → Int32 := upd (upd (upd S 2 0) 0 0) 1 0
theorem Inv_sh {S : Nat → Int32} (hI : Inv S) : Inv (shS S) := by
  have hag : ag3 S (shS S) := fun i hi => by unfold shS; rw [updN (by omega), updN (by omega), updN (by omega)]
  have h0 : shS S 0 = nI 0 := by unfold shS; rw [updN (by decide), updS]; rfl
  have h2 : shS S 2 = nI 0 := by unfold shS; rw [updN (by decide), updN (by decide), updS]; rfl
  exact Inv_ag hag hI (rg_of h0 (Nat.zero_le _)) ⟨rg_of h2 (Nat.zero_le _), by rw [nv_of h2 (by decide)]; exact Nat.two_pow_pos _⟩
section MO
variable {ev : EV} {σ : St2} {K : PO}
theorem R_wrongSheet {s : Int32} (h1 : ¬ rgI s 0 3 → K (some (.int 0)) σ) (h2 : ∀ j, j < 4 → s = nI j → σ.1 13 j = 0 → K (some (.int 5)) σ) (h3 : ∀ j, j < 4 → s = nI j → ¬ σ.1 13 j = 0 → K (some (.int (-1))) σ) : Rn 1 ev mM_wrongSheet [.ref 0, .int s] σ K := by
  refine Rn_V (by decide) rc6 rfl rfl ?_
  refine PW_blk okM_wrongSheet 0 rfl SpM_ok ?_
  simp only [wL0, wLc, true_and, w1, lg0, lgi, lgr, lgl, w55_1, q40, q41, q42, q43, q44, Option.toList_some, Option.toList_none, List.cons_append, List.nil_append, sp_isSheet, w73]
  by_cases hr : rgI s 0 3
  rotate_left
  · refine dN (in1N (by decide) (by decide) hr) ?_
    refine PW_blk okM_wrongSheet 1 rfl SpM_ok ?_
    simp only [wL0, wLc, true_and, w0, w70]
    refine PW_blk okM_wrongSheet 5 rfl SpM_ok ?_
    simp only [wL0, w84]
    exact h1 hr
  refine dY (in1Y (by decide) hr) ?_
  obtain ⟨j, -, hj, rfl⟩ := hr
  refine PW_blk okM_wrongSheet 2 rfl SpM_ok ?_
  simp only [wL0, wLc, true_and, w2, lg0, lgi, lgr, lgl, w35, kM0, rM20, kM13, nM13, w1, w39, w73, eq_true (vp_in_nI (show j < 4 by omega) (by decide)), nI_clamp (show j < 2 ^ 31 by omega)]
  by_cases h : σ.1 13 j = 0
  · refine b3Y h ?_
    refine PW_blk okM_wrongSheet 3 rfl SpM_ok ?_
    simp only [wL0, wLc, true_and, w0, w70]
    refine PW_blk okM_wrongSheet 5 rfl SpM_ok ?_
    simp only [wL0, w84]
    exact h2 j (by omega) rfl h
  · refine b3N h ?_
    refine PW_blk okM_wrongSheet 4 rfl SpM_ok ?_
    simp only [wL0, wLc, true_and, w0, w71]
    refine PW_blk okM_wrongSheet 5 rfl SpM_ok ?_
    simp only [wL0, w84]
    exact h3 j (by omega) rfl h
theorem R_fits {s : Int32} (hI : Inv (σ.1 1)) (hSh : ShI (σ.1 13) (σ.1 14)) (h1 : ¬ rgI s 0 3 → K (some (.int (-1000001))) (noS σ 0)) (h2 : ∀ j, j < 4 → s = nI j → σ.1 13 j = 0 → K (some (.int (-1000006))) (noS σ 5)) (h3 : ∀ j, j < 4 → s = nI j → ¬ σ.1 13 j = 0 → ∀ σ', Sm σ σ' → K (some (.int (nI (suU (hcT σ j) 1024)))) σ') : Rn 1 ev mM_fits [.ref 0, .int s] σ K := by
  refine Rn_V (by decide) rc6 rfl rfl ?_
  refine PW_blk okM_fits 0 rfl SpM_ok ?_
  simp only [wL0, wLc, true_and, w2, lg0, lgi, lgr, lgl, w1, w54_2, q40, q41, q42, q43, q44, Option.toList_some, Option.toList_none, List.cons_append, List.nil_append, w4, ls00, ls0i, ls0r, ls0l, lsi, lsr, lsl, Option.map_some, w74]
  refine R_wrongSheet (fun a => ?_) (fun j a b c => ?_) (fun j hj e c => ?_)
  · simp only [wL0, wLc, true_and, w2, lg0, lgi, lgr, lgl, w1, w54_2, q40, q41, q42, q43, q44, Option.toList_some, Option.toList_none, List.cons_append, List.nil_append, w4, ls00, ls0i, ls0r, ls0l, lsi, lsr, lsl, Option.map_some, w74]
    refine b2N (by decide) ?_
    refine PW_blk okM_fits 1 rfl SpM_ok ?_
    simp only [wL0, wLc, true_and, w2, lg0, lgi, lgr, lgl, w1, w54_2, q40, q41, q42, q43, q44, Option.toList_some, Option.toList_none, List.cons_append, List.nil_append, sp_no, v7_0, v7_1, v7_2, v7_3, v7_4, v7_5, v7_6, w84]
    exact h1 a
  · simp only [wL0, wLc, true_and, w2, lg0, lgi, lgr, lgl, w1, w54_2, q40, q41, q42, q43, q44, Option.toList_some, Option.toList_none, List.cons_append, List.nil_append, w4, ls00, ls0i, ls0r, ls0l, lsi, lsr, lsl, Option.map_some, w74]
    refine b2N (by decide) ?_
    refine PW_blk okM_fits 1 rfl SpM_ok ?_
    simp only [wL0, wLc, true_and, w2, lg0, lgi, lgr, lgl, w1, w54_2, q40, q41, q42, q43, q44, Option.toList_some, Option.toList_none, List.cons_append, List.nil_append, sp_no, v7_0, v7_1, v7_2, v7_3, v7_4, v7_5, v7_6, w84]
    exact h2 j a b c
  · subst e
    simp only [wL0, wLc, true_and, w2, lg0, lgi, lgr, lgl, w1, w54_2, q40, q41, q42, q43, q44, Option.toList_some, Option.toList_none, List.cons_append, List.nil_append, w4, ls00, ls0i, ls0r, ls0l, lsi, lsr, lsl, Option.map_some, w74]
    refine b2Y (by decide) ?_
    refine PW_blk okM_fits 2 rfl SpM_ok ?_
    simp only [wL0, wLc, true_and, w2, lg0, lgi, lgr, lgl, w1, w54_2, q40, q41, q42, q43, q44, Option.toList_some, Option.toList_none, List.cons_append, List.nil_append, w0, w4, ls00, ls0i, ls0r, ls0l, lsi, lsr, lsl, Option.map_some, w71]
    refine R_countsHeard hI hj (hSh j hj).2 (fun r hr => ?_)
    simp only [wL0, wLc, true_and, w2, lg0, lgi, lgr, lgl, w1, w54_2, q40, q41, q42, q43, q44, Option.toList_some, Option.toList_none, List.cons_append, List.nil_append, w0, w4, ls00, ls0i, ls0r, ls0l, lsi, lsr, lsl, Option.map_some, w71]
    have hr : ∀ t, t < 1024 → r t = nI (hcT σ j t) := hr
    have key := lp_up (n := 1024) (P := fun i => PW 1 ev mM_fits 26 [.ref 0, .int (nI j), .int (-1), .int (nI (suU (hcT σ j) i)), .int (nI i)] [] (sr σ 7 r) K) ?_ ?_ 0 (by decide)
    · exact key
    · refine PW_blk okM_fits 3 rfl SpM_ok ?_
      simp only [wL0, wLc, true_and, w1, lg0, lgi, lgr, lgl, w0, w81]
      refine b3N (by decide) ?_
      refine PW_blk okM_fits 5 rfl SpM_ok ?_
      simp only [wL0, wLc, true_and, w1, lg0, lgi, lgr, lgl, w84]
      exact h3 j hj rfl c _ (Sm_sr (by decide) (by decide) Sm_r)
    · intro i hi ih
      refine PW_blk okM_fits 3 rfl SpM_ok ?_
      simp only [wL0, wLc, true_and, w1, lg0, lgi, lgr, lgl, w0, w81]
      refine b3Y (nI_lt hi (by decide)) ?_
      refine PW_blk okM_fits 4 rfl SpM_ok ?_
      simp only [wL0, wLc, true_and, w1, lg0, lgi, lgr, lgl, w2, w35, kM0, rM8, kM7, nM7, w39, w11, w4, ls00, ls0i, ls0r, ls0l, lsi, lsr, lsl, Option.map_some, w7, w70, sr1, eq_true (vp_in_nI hi (by decide)), nI_clamp (show i < 2 ^ 31 by omega), hr i hi]
      rw [show (1 : Int32) = nI 1 from rfl, nI_add, nI_add]
      exact ih
theorem R_heardSet {j : Nat} {q : Int32} (hI : Inv (σ.1 1)) (hj : j < 4) (hN : rg (σ.1 14) j 40) (h1 : (¬ ∃ t, t < 1024 ∧ hcT σ j t ≠ 0) → ∀ σ', Sm σ σ' → K (some (.int (-1))) σ') (h2 : (∃ t, t < 1024 ∧ hcT σ j t ≠ 0) → q = 0 → ∀ σ', Sm σ σ' → K (some (.int (nI (orU (fun t => cif (hcT σ j t ≠ 0) t 0) 1024)))) σ') (h3 : (∃ t, t < 1024 ∧ hcT σ j t ≠ 0) → ¬ q = 0 → ∀ σ', Sm σ σ' → K (some (.int (nI (alU 1023 (fun t => hcT σ j t ≠ 0) 1024)))) σ') : Rn 1 ev mM_heardSet [.ref 0, .int (nI j), .int q] σ K := by
  refine Rn_V (by decide) rc6 rfl rfl ?_
  refine PW_blk okM_heardSet 0 rfl SpM_ok ?_
  simp only [wL0, wLc, true_and, w2, lg0, lgi, lgr, lgl, w1, w54_2, q40, q41, q42, q43, q44, Option.toList_some, Option.toList_none, List.cons_append, List.nil_append, w0, w4, ls00, ls0i, ls0r, ls0l, lsi, lsr, lsl, Option.map_some, w71]
  refine R_countsHeard hI hj hN (fun r hr => ?_)
  have hr : ∀ t, t < 1024 → r t = nI (hcT σ j t) := hr
  simp only [wL0, wLc, true_and, w2, lg0, lgi, lgr, lgl, w1, w54_2, q40, q41, q42, q43, q44, Option.toList_some, Option.toList_none, List.cons_append, List.nil_append, w0, w4, ls00, ls0i, ls0r, ls0l, lsi, lsr, lsl, Option.map_some, w71]
  have hS : Sm σ (sr σ 7 r) := Sm_sr (by decide) (by decide) Sm_r
  have key := lp_up (n := 1024) (P := fun i => ∀ f : Int32, (f = 0 ∨ f = 1) → (f = 1 ↔ ∃ t, t < i ∧ hcT σ j t ≠ 0) → PW 1 ev mM_heardSet 18 [.ref 0, .int (nI j), .int q, .int (nI (orU (fun t => cif (hcT σ j t ≠ 0) t 0) i)), .int (nI (alU 1023 (fun t => hcT σ j t ≠ 0) i)), .int f, .int (nI i)] [] (sr σ 7 r) K) ?_ ?_ 0 (by decide) 0 (Or.inl rfl) ⟨fun z => absurd z (by decide), fun ⟨t, h, _⟩ => absurd h (Nat.not_lt_zero t)⟩
  · exact key
  · intro f hf01 hf
    refine PW_blk okM_heardSet 1 rfl SpM_ok ?_
    simp only [wL0, wLc, true_and, w1, lg0, lgi, lgr, lgl, w0, w81]
    refine b3N (by decide) ?_
    refine PW_blk okM_heardSet 13 rfl SpM_ok ?_
    simp only [wL0, wLc, true_and, w1, lg0, lgi, lgr, lgl, w73]
    rcases hf01 with e | e
    · subst e
      have hno : ¬ ∃ t, t < 1024 ∧ hcT σ j t ≠ 0 := fun z => absurd (hf.mpr z) (by decide)
      refine b3Y rfl ?_
      refine PW_blk okM_heardSet 14 rfl SpM_ok ?_
      simp only [wL0, wLc, true_and, w0, w70]
      refine PW_blk okM_heardSet 18 rfl SpM_ok ?_
      simp only [wL0, w84]
      exact h1 hno _ hS
    · subst e
      have hy := hf.mp rfl
      refine b3N (by decide) ?_
      refine PW_blk okM_heardSet 15 rfl SpM_ok ?_
      simp only [wL0, wLc, true_and, w1, lg0, lgi, lgr, lgl, w72]
      by_cases hq : q = 0
      · refine b2Y hq ?_
        refine PW_blk okM_heardSet 17 rfl SpM_ok ?_
        simp only [wL0, wLc, true_and, w1, lg0, lgi, lgr, lgl, w71]
        refine PW_blk okM_heardSet 18 rfl SpM_ok ?_
        simp only [wL0, w84]
        exact h2 hy hq _ hS
      · refine b2N hq ?_
        refine PW_blk okM_heardSet 16 rfl SpM_ok ?_
        simp only [wL0, wLc, true_and, w1, lg0, lgi, lgr, lgl, w70]
        refine PW_blk okM_heardSet 18 rfl SpM_ok ?_
        simp only [wL0, w84]
        exact h3 hy hq _ hS
  · intro i hi ih f hf01 hf
    have hv : vp_in (nI i) 1024 := vp_in_nI hi (by decide)
    have cl : (nI i).toNatClampNeg = i := nI_clamp (by omega)
    have hsm : hcT σ j i ≤ 3628800 := hcL_small hI hi
    have e1 : orU (fun t => cif (hcT σ j t ≠ 0) t 0) (i + 1) = orU (fun t => cif (hcT σ j t ≠ 0) t 0) i ||| cif (hcT σ j i ≠ 0) i 0 := rfl
    have e2 : alU 1023 (fun t => hcT σ j t ≠ 0) (i + 1) = cif (hcT σ j i ≠ 0) (alU 1023 (fun t => hcT σ j t ≠ 0) i &&& i) (alU 1023 (fun t => hcT σ j t ≠ 0) i) := rfl
    have hex : (∃ t, t < i + 1 ∧ hcT σ j t ≠ 0) ↔ (∃ t, t < i ∧ hcT σ j t ≠ 0) ∨ hcT σ j i ≠ 0 := by
      constructor
      · intro ⟨t, a, b⟩
        by_cases e : t = i
        · subst e; exact Or.inr b
        · exact Or.inl ⟨t, by omega, b⟩
      · intro z
        rcases z with ⟨t, a, b⟩ | z
        · exact ⟨t, by omega, b⟩
        · exact ⟨i, by omega, z⟩
    rw [e1, e2, hex] at ih
    refine PW_blk okM_heardSet 1 rfl SpM_ok ?_
    simp only [wL0, wLc, true_and, w1, lg0, lgi, lgr, lgl, w0, w81]
    refine b3Y (nI_lt hi (by decide)) ?_
    refine PW_blk okM_heardSet 2 rfl SpM_ok ?_
    simp only [wL0, wLc, true_and, w1, lg0, lgi, lgr, lgl, w2, w35, kM0, rM8, kM7, nM7, w39, w77, sr1, eq_true hv, cl, hr i hi]
    rw [nI_p0 (by omega)]
    by_cases c : hcT σ j i ≠ 0
    · rw [cif_y c, cif_y c] at ih
      refine b3Y c ?_
      refine PW_blk okM_heardSet 3 rfl SpM_ok ?_
      simp only [wL0, wLc, true_and, w1, lg0, lgi, lgr, lgl, w70]
      refine PW_blk okM_heardSet 5 rfl SpM_ok ?_
      simp only [wL0, wLc, true_and, w17, w4, ls00, ls0i, ls0r, ls0l, lsi, lsr, lsl, Option.map_some, w1, lg0, lgi, lgr, lgl, w2, w35, kM0, rM8, kM7, nM7, w39, w77, sr1, eq_true hv, cl, hr i hi]
      rw [nI_p0 (by omega)]
      refine b3Y c ?_
      refine PW_blk okM_heardSet 6 rfl SpM_ok ?_
      simp only [wL0, wLc, true_and, w1, lg0, lgi, lgr, lgl, w70]
      have nx := ih 1 (Or.inr rfl) ⟨fun _ => Or.inr c, fun _ => rfl⟩
      have l87 : PW 1 ev mM_heardSet 87 [.ref 0, .int (nI j), .int q, .int (nI (orU (fun t => cif (hcT σ j t ≠ 0) t 0) i ||| i)), .int (nI (alU 1023 (fun t => hcT σ j t ≠ 0) i &&& i)), .int f, .int (nI i)] [.int 1] (sr σ 7 r) K := by
        refine PW_blk okM_heardSet 12 rfl SpM_ok ?_
        simp only [wL0, wLc, true_and, w4, ls00, ls0i, ls0r, ls0l, lsi, lsr, lsl, Option.map_some, w7, lg0, lgi, lgr, lgl, w70]
        rw [show (1 : Int32) = nI 1 from rfl, nI_add]
        exact nx
      refine PW_blk okM_heardSet 8 rfl SpM_ok ?_
      simp only [wL0, wLc, true_and, w16, w4, ls00, ls0i, ls0r, ls0l, lsi, lsr, lsl, Option.map_some, w1, lg0, lgi, lgr, lgl, w73]
      rw [fa_or, fa_and]
      rcases hf01 with e | e
      · subst e
        refine b3Y rfl ?_
        refine PW_blk okM_heardSet 9 rfl SpM_ok ?_
        simp only [wL0, wLc, true_and, w2, lg0, lgi, lgr, lgl, w35, kM0, rM8, kM7, nM7, w1, w39, w77, sr1, eq_true hv, cl, hr i hi]
        rw [nI_p0 (by omega)]
        refine b3Y c ?_
        refine PW_blk okM_heardSet 10 rfl SpM_ok ?_
        simp only [wL0, wLc, true_and, w0, w70]
        exact l87
      · subst e
        refine b3N (by decide) ?_
        refine PW_blk okM_heardSet 10 rfl SpM_ok ?_
        simp only [wL0, wLc, true_and, w0, w70]
        exact l87
    · rw [cif_n c, cif_n c] at ih
      refine b3N c ?_
      refine PW_blk okM_heardSet 4 rfl SpM_ok ?_
      simp only [wL0, wLc, true_and, w0, w71]
      refine PW_blk okM_heardSet 5 rfl SpM_ok ?_
      simp only [wL0, wLc, true_and, w17, w4, ls00, ls0i, ls0r, ls0l, lsi, lsr, lsl, Option.map_some, w1, lg0, lgi, lgr, lgl, w2, w35, kM0, rM8, kM7, nM7, w39, w77, sr1, eq_true hv, cl, hr i hi]
      rw [nI_p0 (by omega)]
      refine b3N c ?_
      refine PW_blk okM_heardSet 7 rfl SpM_ok ?_
      simp only [wL0, wLc, true_and, w1, lg0, lgi, lgr, lgl, w71]
      have nx := ih f hf01 (by rw [hf]; exact ⟨fun z => Or.inl z, fun z => z.resolve_right c⟩)
      have l87 : ∀ x, x = f → PW 1 ev mM_heardSet 87 [.ref 0, .int (nI j), .int q, .int (nI (orU (fun t => cif (hcT σ j t ≠ 0) t 0) i ||| 0)), .int (nI (alU 1023 (fun t => hcT σ j t ≠ 0) i)), .int f, .int (nI i)] [.int x] (sr σ 7 r) K := by
        intro x hx
        subst hx
        refine PW_blk okM_heardSet 12 rfl SpM_ok ?_
        simp only [wL0, wLc, true_and, w4, ls00, ls0i, ls0r, ls0l, lsi, lsr, lsl, Option.map_some, w7, lg0, lgi, lgr, lgl, w70]
        rw [show (1 : Int32) = nI 1 from rfl, nI_add]
        exact nx
      refine PW_blk okM_heardSet 8 rfl SpM_ok ?_
      simp only [wL0, wLc, true_and, w16, w4, ls00, ls0i, ls0r, ls0l, lsi, lsr, lsl, Option.map_some, w1, lg0, lgi, lgr, lgl, w73]
      rw [show (0 : Int32) = nI 0 from rfl, fa_or, fa_and, Nat.and_self]
      rcases hf01 with e | e
      · subst e
        refine b3Y rfl ?_
        refine PW_blk okM_heardSet 9 rfl SpM_ok ?_
        simp only [wL0, wLc, true_and, w2, lg0, lgi, lgr, lgl, w35, kM0, rM8, kM7, nM7, w1, w39, w77, sr1, eq_true hv, cl, hr i hi]
        rw [nI_p0 (by omega)]
        refine b3N c ?_
        refine PW_blk okM_heardSet 11 rfl SpM_ok ?_
        simp only [wL0, wLc, true_and, w0, w71]
        exact l87 0 rfl
      · subst e
        refine b3N (by decide) ?_
        refine PW_blk okM_heardSet 10 rfl SpM_ok ?_
        simp only [wL0, wLc, true_and, w0, w70]
        exact l87 1 rfl
theorem R_heardTold {s q : Int32} (hI : Inv (σ.1 1)) (hSh : ShI (σ.1 13) (σ.1 14)) (h1 : ¬ rgI s 0 3 → K (some (.int (-1000001))) (noS σ 0)) (h2 : ∀ j, j < 4 → s = nI j → σ.1 13 j = 0 → K (some (.int (-1000006))) (noS σ 5)) (h3 : ∀ j, j < 4 → s = nI j → ¬ σ.1 13 j = 0 → (¬ ∃ t, t < 1024 ∧ hcT σ j t ≠ 0) → ∀ σ', Sm σ σ' → K (some (.int (-1000004))) (noS σ' 3)) (h4 : ∀ j, j < 4 → s = nI j → ¬ σ.1 13 j = 0 → (∃ t, t < 1024 ∧ hcT σ j t ≠ 0) → q = 0 → ∀ σ', Sm σ σ' → K (some (.int (nI (orU (fun t => cif (hcT σ j t ≠ 0) t 0) 1024)))) σ') (h5 : ∀ j, j < 4 → s = nI j → ¬ σ.1 13 j = 0 → (∃ t, t < 1024 ∧ hcT σ j t ≠ 0) → ¬ q = 0 → ∀ σ', Sm σ σ' → K (some (.int (nI (alU 1023 (fun t => hcT σ j t ≠ 0) 1024)))) σ') : Rn 1 ev mM_heardTold [.ref 0, .int s, .int q] σ K := by
  have oU : ∀ f : Nat → Nat, (∀ t, f t < 1024) → ∀ n, orU f n < 1024 := by
    intro f hf n
    induction n with
    | zero => exact (by decide : 0 < 1024)
    | succ n ih => exact Nat.or_lt_two_pow (n := 10) ih (hf n)
  have oU2 : ∀ f : Nat → Nat, (∀ t, t < 1024 → f t < 1024) → ∀ n, n ≤ 1024 → orU f n < 1024 := by
    intro f hf n
    induction n with
    | zero => intro _; exact (by decide : 0 < 1024)
    | succ n ih => intro h; exact Nat.or_lt_two_pow (n := 10) (ih (by omega)) (hf n (by omega))
  have aU : ∀ P n, alU 1023 P n < 1024 := by
    intro P n
    induction n with
    | zero => exact (by decide : 1023 < 1024)
    | succ n ih =>
      unfold alU
      by_cases c : P n
      · rw [cif_y c]; exact Nat.lt_of_le_of_lt Nat.and_le_left ih
      · rw [cif_n c]; exact ih
  refine Rn_V (by decide) rc6 rfl rfl ?_
  refine PW_blk okM_heardTold 0 rfl SpM_ok ?_
  simp only [wL0, wLc, true_and, w2, lg0, lgi, lgr, lgl, w1, w54_2, q40, q41, q42, q43, q44, Option.toList_some, Option.toList_none, List.cons_append, List.nil_append, w4, ls00, ls0i, ls0r, ls0l, lsi, lsr, lsl, Option.map_some, w74]
  refine R_wrongSheet (fun a => ?_) (fun j a b c => ?_) (fun j hj e c => ?_)
  · simp only [wL0, wLc, true_and, w2, lg0, lgi, lgr, lgl, w1, w54_2, q40, q41, q42, q43, q44, Option.toList_some, Option.toList_none, List.cons_append, List.nil_append, w4, ls00, ls0i, ls0r, ls0l, lsi, lsr, lsl, Option.map_some, w74]
    refine b2N (by decide) ?_
    refine PW_blk okM_heardTold 1 rfl SpM_ok ?_
    simp only [wL0, wLc, true_and, w0, w70]
    refine PW_blk okM_heardTold 3 rfl SpM_ok ?_
    simp only [wL0, wLc, true_and, w4, ls00, ls0i, ls0r, ls0l, lsi, lsr, lsl, Option.map_some, w1, lg0, lgi, lgr, lgl, w74]
    refine b2N (by decide) ?_
    refine PW_blk okM_heardTold 4 rfl SpM_ok ?_
    simp only [wL0, wLc, true_and, w2, lg0, lgi, lgr, lgl, w1, w54_2, q40, q41, q42, q43, q44, Option.toList_some, Option.toList_none, List.cons_append, List.nil_append, sp_no, v7_0, v7_1, v7_2, v7_3, v7_4, v7_5, v7_6, w70]
    refine PW_blk okM_heardTold 8 rfl SpM_ok ?_
    simp only [wL0, w84]
    exact h1 a
  · simp only [wL0, wLc, true_and, w2, lg0, lgi, lgr, lgl, w1, w54_2, q40, q41, q42, q43, q44, Option.toList_some, Option.toList_none, List.cons_append, List.nil_append, w4, ls00, ls0i, ls0r, ls0l, lsi, lsr, lsl, Option.map_some, w74]
    refine b2N (by decide) ?_
    refine PW_blk okM_heardTold 1 rfl SpM_ok ?_
    simp only [wL0, wLc, true_and, w0, w70]
    refine PW_blk okM_heardTold 3 rfl SpM_ok ?_
    simp only [wL0, wLc, true_and, w4, ls00, ls0i, ls0r, ls0l, lsi, lsr, lsl, Option.map_some, w1, lg0, lgi, lgr, lgl, w74]
    refine b2N (by decide) ?_
    refine PW_blk okM_heardTold 4 rfl SpM_ok ?_
    simp only [wL0, wLc, true_and, w2, lg0, lgi, lgr, lgl, w1, w54_2, q40, q41, q42, q43, q44, Option.toList_some, Option.toList_none, List.cons_append, List.nil_append, sp_no, v7_0, v7_1, v7_2, v7_3, v7_4, v7_5, v7_6, w70]
    refine PW_blk okM_heardTold 8 rfl SpM_ok ?_
    simp only [wL0, w84]
    exact h2 j a b c
  · subst e
    have out : ∀ σ' x, x < 1024 → K (some (.int (nI x))) σ' → PW 1 ev mM_heardTold 20 [.ref 0, .int (nI j), .int q, .int (-1)] [.int (nI x)] σ' K := by
      intro σ' x hx hk
      refine PW_blk okM_heardTold 3 rfl SpM_ok ?_
      simp only [wL0, wLc, true_and, w4, ls00, ls0i, ls0r, ls0l, lsi, lsr, lsl, Option.map_some, w1, lg0, lgi, lgr, lgl, w74]
      refine b2Y (by decide) ?_
      refine PW_blk okM_heardTold 5 rfl SpM_ok ?_
      simp only [wL0, wLc, true_and, w1, lg0, lgi, lgr, lgl, w75]
      refine b3N (nI_nlt (a := x) (b := 0) (Nat.zero_le _) (by omega)) ?_
      refine PW_blk okM_heardTold 7 rfl SpM_ok ?_
      simp only [wL0, wLc, true_and, w1, lg0, lgi, lgr, lgl, w71]
      refine PW_blk okM_heardTold 8 rfl SpM_ok ?_
      simp only [wL0, w84]
      exact hk
    simp only [wL0, wLc, true_and, w2, lg0, lgi, lgr, lgl, w1, w54_2, q40, q41, q42, q43, q44, Option.toList_some, Option.toList_none, List.cons_append, List.nil_append, w4, ls00, ls0i, ls0r, ls0l, lsi, lsr, lsl, Option.map_some, w74]
    refine b2Y (by decide) ?_
    refine PW_blk okM_heardTold 2 rfl SpM_ok ?_
    simp only [wL0, wLc, true_and, w2, lg0, lgi, lgr, lgl, w1, w54_3, q40, q41, q42, q43, q44, Option.toList_some, Option.toList_none, List.cons_append, List.nil_append, w71]
    refine R_heardSet hI hj (hSh j hj).2 (fun a σ' hS => ?_) (fun a b σ' hS => ?_) (fun a b σ' hS => ?_)
    · simp only [wL0, wLc, true_and, w2, lg0, lgi, lgr, lgl, w1, w54_3, q40, q41, q42, q43, q44, Option.toList_some, Option.toList_none, List.cons_append, List.nil_append, w71]
      refine PW_blk okM_heardTold 3 rfl SpM_ok ?_
      simp only [wL0, wLc, true_and, w4, ls00, ls0i, ls0r, ls0l, lsi, lsr, lsl, Option.map_some, w1, lg0, lgi, lgr, lgl, w74]
      refine b2Y (by decide) ?_
      refine PW_blk okM_heardTold 5 rfl SpM_ok ?_
      simp only [wL0, wLc, true_and, w1, lg0, lgi, lgr, lgl, w75]
      refine b3Y (by decide) ?_
      refine PW_blk okM_heardTold 6 rfl SpM_ok ?_
      simp only [wL0, wLc, true_and, w2, lg0, lgi, lgr, lgl, w0, w54_2, q40, q41, q42, q43, q44, Option.toList_some, Option.toList_none, List.cons_append, List.nil_append, sp_no, v7_0, v7_1, v7_2, v7_3, v7_4, v7_5, v7_6, w70]
      refine PW_blk okM_heardTold 8 rfl SpM_ok ?_
      simp only [wL0, w84]
      exact h3 j hj rfl c a σ' hS
    · simp only [wL0, wLc, true_and, w2, lg0, lgi, lgr, lgl, w1, w54_3, q40, q41, q42, q43, q44, Option.toList_some, Option.toList_none, List.cons_append, List.nil_append, w71]
      refine out σ' _ (oU2 _ (fun t ht => ?_) 1024 (Nat.le_refl _)) (h4 j hj rfl c a b σ' hS)
      by_cases z : hcT σ j t ≠ 0
      · rw [cif_y z]; exact ht
      · rw [cif_n z]; decide
    · simp only [wL0, wLc, true_and, w2, lg0, lgi, lgr, lgl, w1, w54_3, q40, q41, q42, q43, q44, Option.toList_some, Option.toList_none, List.cons_append, List.nil_append, w71]
      exact out σ' _ (aU _ 1024) (h5 j hj rfl c a b σ' hS)
theorem R_maybe {s : Int32} (hI : Inv (σ.1 1)) (hSh : ShI (σ.1 13) (σ.1 14)) (h1 : ¬ rgI s 0 3 → K (some (.int (-1000001))) (noS σ 0)) (h2 : ∀ j, j < 4 → s = nI j → σ.1 13 j = 0 → K (some (.int (-1000006))) (noS σ 5)) (h3 : ∀ j, j < 4 → s = nI j → ¬ σ.1 13 j = 0 → (¬ ∃ t, t < 1024 ∧ hcT σ j t ≠ 0) → ∀ σ', Sm σ σ' → K (some (.int (-1000004))) (noS σ' 3)) (h4 : ∀ j, j < 4 → s = nI j → ¬ σ.1 13 j = 0 → (∃ t, t < 1024 ∧ hcT σ j t ≠ 0) → ∀ σ', Sm σ σ' → K (some (.int (nI (orU (fun t => cif (hcT σ j t ≠ 0) t 0) 1024)))) σ') : Rn 1 ev mM_maybe [.ref 0, .int s] σ K := by
  refine Rn_V (by decide) rc6 rfl rfl ?_
  refine PW_blk okM_maybe 0 rfl SpM_ok ?_
  simp only [wL0, wLc, true_and, w2, lg0, lgi, lgr, lgl, w1, w0, w54_3, q40, q41, q42, q43, q44, Option.toList_some, Option.toList_none, List.cons_append, List.nil_append, w84]
  refine R_heardTold hI hSh (fun a => ?_) (fun j a b c => ?_) (fun j a b c d σ' hS => ?_) (fun j a b c d e σ' hS => ?_) (fun j a b c d e σ' hS => ?_)
  · simp only [wL0, wLc, true_and, w2, lg0, lgi, lgr, lgl, w1, w0, w54_3, q40, q41, q42, q43, q44, Option.toList_some, Option.toList_none, List.cons_append, List.nil_append, w84]
    exact h1 a
  · simp only [wL0, wLc, true_and, w2, lg0, lgi, lgr, lgl, w1, w0, w54_3, q40, q41, q42, q43, q44, Option.toList_some, Option.toList_none, List.cons_append, List.nil_append, w84]
    exact h2 j a b c
  · simp only [wL0, wLc, true_and, w2, lg0, lgi, lgr, lgl, w1, w0, w54_3, q40, q41, q42, q43, q44, Option.toList_some, Option.toList_none, List.cons_append, List.nil_append, w84]
    exact h3 j a b c d σ' hS
  · simp only [wL0, wLc, true_and, w2, lg0, lgi, lgr, lgl, w1, w0, w54_3, q40, q41, q42, q43, q44, Option.toList_some, Option.toList_none, List.cons_append, List.nil_append, w84]
    exact h4 j a b c d σ' hS
  · exact absurd rfl e
theorem R_surely {s : Int32} (hI : Inv (σ.1 1)) (hSh : ShI (σ.1 13) (σ.1 14)) (h1 : ¬ rgI s 0 3 → K (some (.int (-1000001))) (noS σ 0)) (h2 : ∀ j, j < 4 → s = nI j → σ.1 13 j = 0 → K (some (.int (-1000006))) (noS σ 5)) (h3 : ∀ j, j < 4 → s = nI j → ¬ σ.1 13 j = 0 → (¬ ∃ t, t < 1024 ∧ hcT σ j t ≠ 0) → ∀ σ', Sm σ σ' → K (some (.int (-1000004))) (noS σ' 3)) (h4 : ∀ j, j < 4 → s = nI j → ¬ σ.1 13 j = 0 → (∃ t, t < 1024 ∧ hcT σ j t ≠ 0) → ∀ σ', Sm σ σ' → K (some (.int (nI (alU 1023 (fun t => hcT σ j t ≠ 0) 1024)))) σ') : Rn 1 ev mM_surely [.ref 0, .int s] σ K := by
  refine Rn_V (by decide) rc6 rfl rfl ?_
  refine PW_blk okM_surely 0 rfl SpM_ok ?_
  simp only [wL0, wLc, true_and, w2, lg0, lgi, lgr, lgl, w1, w0, w54_3, q40, q41, q42, q43, q44, Option.toList_some, Option.toList_none, List.cons_append, List.nil_append, w84]
  refine R_heardTold hI hSh (fun a => ?_) (fun j a b c => ?_) (fun j a b c d σ' hS => ?_) (fun j a b c d e σ' hS => ?_) (fun j a b c d e σ' hS => ?_)
  · simp only [wL0, wLc, true_and, w2, lg0, lgi, lgr, lgl, w1, w0, w54_3, q40, q41, q42, q43, q44, Option.toList_some, Option.toList_none, List.cons_append, List.nil_append, w84]
    exact h1 a
  · simp only [wL0, wLc, true_and, w2, lg0, lgi, lgr, lgl, w1, w0, w54_3, q40, q41, q42, q43, q44, Option.toList_some, Option.toList_none, List.cons_append, List.nil_append, w84]
    exact h2 j a b c
  · simp only [wL0, wLc, true_and, w2, lg0, lgi, lgr, lgl, w1, w0, w54_3, q40, q41, q42, q43, q44, Option.toList_some, Option.toList_none, List.cons_append, List.nil_append, w84]
    exact h3 j a b c d σ' hS
  · exact absurd e (by decide)
  · simp only [wL0, wLc, true_and, w2, lg0, lgi, lgr, lgl, w1, w0, w54_3, q40, q41, q42, q43, q44, Option.toList_some, Option.toList_none, List.cons_append, List.nil_append, w84]
    exact h4 j a b c d σ' hS
theorem R_hear {v : Int32} (hI : Inv (σ.1 1)) (h1 : ¬ rgI v 0 99 → K (some (.int (-1000001))) (noS σ 0)) (h2 : rgI v 0 99 → K (some (.int (nI (hlN (σ.1 1) v (nv (σ.1 1) 2))))) σ) : Rn 1 ev mM_hear [.ref 0, .int v] σ K := by
  have hG := hI.2.1.1
  have hG2 := hG.2
  refine Rn_V (by decide) rc6 rfl rfl ?_
  refine PW_blk okM_hear 0 rfl SpM_ok ?_
  simp only [wL0, wLc, true_and, w1, lg0, lgi, lgr, lgl, w0, w55_3, q40, q41, q42, q43, q44, Option.toList_some, Option.toList_none, List.cons_append, List.nil_append, sp_in1, w72]
  by_cases hr : rgI v 0 99
  · refine bY (in1Y (by decide) hr) ?_
    refine PW_blk okM_hear 1 rfl SpM_ok ?_
    simp only [wL0, wLc, true_and, w2, lg0, lgi, lgr, lgl, w1, w35, kM0, rM0, kM1, nM1, w0, w39, w54_3, q40, q41, q42, q43, q44, Option.toList_some, Option.toList_none, List.cons_append, List.nil_append, tn2, vi2_120, w70, hG.1]
    refine R_heardLocks hI (by omega) ?_
    simp only [wL0, wLc, true_and, w2, lg0, lgi, lgr, lgl, w1, w35, kM0, rM0, kM1, nM1, w0, w39, w54_3, q40, q41, q42, q43, q44, Option.toList_some, Option.toList_none, List.cons_append, List.nil_append, tn2, vi2_120, w70]
    refine PW_blk okM_hear 3 rfl SpM_ok ?_
    simp only [wL0, w84]
    exact h2 hr
  · refine bN (in1N (by decide) (by decide) hr) ?_
    refine PW_blk okM_hear 2 rfl SpM_ok ?_
    simp only [wL0, wLc, true_and, w2, lg0, lgi, lgr, lgl, w0, w54_2, q40, q41, q42, q43, q44, Option.toList_some, Option.toList_none, List.cons_append, List.nil_append, sp_no, v7_0, v7_1, v7_2, v7_3, v7_4, v7_5, v7_6, w71]
    refine PW_blk okM_hear 3 rfl SpM_ok ?_
    simp only [wL0, w84]
    exact h1 hr
theorem R_draw (hk : K (some (.int (nI (drN (drZ (σ.1 1 9)))))) (sr σ 1 (upd (σ.1 1) 9 (drZ (σ.1 1 9))))) : Rn 1 ev mM_draw [.ref 0] σ K := by
  refine Rn_V (by decide) rc6 rfl rfl ?_
  refine PW_blk okM_draw 0 rfl SpM_ok ?_
  simp only [wL0, wLc, true_and, w2, lg0, lgi, lgr, lgl, w35, kM0, rM0, kM1, nM1, w0, w39, w13, w11, w40, w21, tn8, vi8_120, tn9, vi9_120, w84, si_is, sr1, updS]
  rw [show σ.1 1 9 * 1103515245 + 12345 = drZ (σ.1 1 9) from rfl, drN_I]
  exact hk
theorem R_nthOf {m n : Nat} (hm : m < 1024) (hn : n < pcn m) (hk : K (some (.int (nI (nthF m n)))) σ) : Rn 1 ev mM_nthOf [.ref 0, .int (nI m), .int (nI n)] σ K := by
  have hp := pcn_le m
  refine Rn_V (by decide) rc6 rfl rfl ?_
  refine PW_blk okM_nthOf 0 rfl SpM_ok ?_
  simp only [wL0, wLc, true_and, w1, lg0, lgi, lgr, lgl, w4, ls00, ls0i, ls0r, ls0l, lsi, lsr, lsl, Option.map_some, w0, w71]
  have key := lp_up (n := n) (P := fun i => PW 1 ev mM_nthOf 5 [.ref 0, .int (nI m), .int (nI n), .int (nI (clF m i)), .int (nI i)] [] σ K) ?_ ?_ 0 (Nat.zero_le _)
  · exact key
  · refine PW_blk okM_nthOf 1 rfl SpM_ok ?_
    simp only [wL0, wLc, true_and, w1, lg0, lgi, lgr, lgl, w81]
    refine b3N (nI_nlt (Nat.le_refl _) (by omega)) ?_
    refine PW_blk okM_nthOf 3 rfl SpM_ok ?_
    simp only [wL0, wLc, true_and, w0, w4, ls00, ls0i, ls0r, ls0l, lsi, lsr, lsl, Option.map_some, w71]
    obtain ⟨h1, h2, h3⟩ := clF_ok hm n (by omega)
    obtain ⟨j, hj, hb⟩ := bit_ex h1 (fun z => by rw [z, pcn_0] at h2; omega)
    have k2 := lp_up (n := 10) (P := fun k => (∀ q, q < k → (clF m n).testBit q = false) → loU (clF m n) (10 - k) k = nthF m n → PW 1 ev mM_nthOf 26 [.ref 0, .int (nI m), .int (nI n), .int (nI (clF m n)), .int (nI k)] [] σ K) ?_ ?_ 0 (by decide) (fun q h => absurd h (Nat.not_lt_zero q)) rfl
    · exact k2
    · intro hno _
      rw [hno j hj] at hb
      cases hb
    · intro k hk2 ih hno hlo
      rw [show 10 - k = (10 - (k + 1)) + 1 by omega] at hlo
      unfold loU at hlo
      refine PW_blk okM_nthOf 4 rfl SpM_ok ?_
      simp only [wL0, wLc, true_and, w1, lg0, lgi, lgr, lgl, w55_2, q40, q41, q42, q43, q44, Option.toList_some, Option.toList_none, List.cons_append, List.nil_append, sp_isIn, w73]
      rw [isInF_n (by omega) (by omega)]
      by_cases hc : (clF m n).testBit k = true
      · rw [if_pos hc] at hlo
        rw [if_pos hc, ]
        refine b3N (by decide) ?_
        refine PW_blk okM_nthOf 6 rfl SpM_ok ?_
        simp only [wL0, wLc, true_and, w1, lg0, lgi, lgr, lgl, w84]
        rw [hlo]
        exact hk
      · rw [if_neg hc] at hlo
        rw [if_neg hc]
        refine b3Y rfl ?_
        refine PW_blk okM_nthOf 5 rfl SpM_ok ?_
        simp only [wL0, wLc, true_and, w7, lg0, lgi, lgr, lgl, ls00, ls0i, ls0r, ls0l, lsi, lsr, lsl, Option.map_some, w70]
        rw [show (1 : Int32) = nI 1 from rfl, nI_add]
        refine ih (fun q hq => ?_) hlo
        by_cases e : q = k
        · subst e; simpa using hc
        · exact hno q (by omega)
  · intro i hi ih
    obtain ⟨h1, h2, h3⟩ := clF_ok hm i (by omega)
    have hpos : 0 < clF m i := by
      rcases Nat.eq_zero_or_pos (clF m i) with z | z
      · rw [z, pcn_0] at h2; omega
      · exact z
    refine PW_blk okM_nthOf 1 rfl SpM_ok ?_
    simp only [wL0, wLc, true_and, w1, lg0, lgi, lgr, lgl, w81]
    refine b3Y (nI_lt hi (by omega)) ?_
    refine PW_blk okM_nthOf 2 rfl SpM_ok ?_
    simp only [wL0, wLc, true_and, w1, lg0, lgi, lgr, lgl, w0, w12, w16, w4, ls00, ls0i, ls0r, ls0l, lsi, lsr, lsl, Option.map_some, w7, w70]
    rw [m1_pos hpos, fa_and, show (1 : Int32) = nI 1 from rfl, nI_add]
    exact ih
theorem R_seed {v : Int32} (hk : K (some (.int (σ.1 1 9))) (sr σ 1 (upd (σ.1 1) 9 v))) : Rn 1 ev mM_seed [.ref 0, .int v] σ K := by
  refine Rn_V (by decide) rc6 rfl rfl ?_
  refine PW_blk okM_seed 0 rfl SpM_ok ?_
  simp only [wL0, wLc, true_and, w2, lg0, lgi, lgr, lgl, w35, kM0, rM0, kM1, nM1, w0, w39, w4, ls00, ls0i, ls0r, ls0l, lsi, lsr, lsl, Option.map_some, w1, w40, tn9, vi9_120, w84, si_is]
  exact hk
theorem R_friday {v : Int32} (hI : Inv (σ.1 1)) (h1 : ¬ rgI v 1 20 → K (some (.int (-1000001))) (noS σ 0)) (h2 : rgI v 1 20 → nv (σ.1 1) 3 = 0 → K (some (.int (-1000005))) (noS σ 4)) (h3 : ∀ n, 1 ≤ n → n ≤ 20 → v = nI n → nv (σ.1 1) 3 ≠ 0 → K (some (.int (nI (friU n (shS (σ.1 1))).1))) (sr σ 1 (friU n (shS (σ.1 1))).2)) : Rn 1 ev mM_friday [.ref 0, .int v] σ K := by
  have hn := hI.1.2
  refine Rn_V (by decide) rc6 rfl rfl ?_
  refine PW_blk okM_friday 0 rfl SpM_ok ?_
  simp only [wL0, wLc, true_and, w1, lg0, lgi, lgr, lgl, w0, w55_3, q40, q41, q42, q43, q44, Option.toList_some, Option.toList_none, List.cons_append, List.nil_append, sp_in1, w73]
  by_cases hr : rgI v 1 20
  rotate_left
  · refine dN (in1N (a := 1) (by decide) (by decide) hr) ?_
    refine PW_blk okM_friday 1 rfl SpM_ok ?_
    simp only [wL0, wLc, true_and, w2, lg0, lgi, lgr, lgl, w0, w54_2, q40, q41, q42, q43, q44, Option.toList_some, Option.toList_none, List.cons_append, List.nil_append, sp_no, v7_0, v7_1, v7_2, v7_3, v7_4, v7_5, v7_6, w84]
    exact h1 hr
  refine dY (in1Y (a := 1) (by decide) hr) ?_
  refine PW_blk okM_friday 2 rfl SpM_ok ?_
  simp only [wL0, wLc, true_and, w2, lg0, lgi, lgr, lgl, w35, kM0, rM0, kM1, nM1, w0, w39, tn3, vi3_120, w73, hI.1.1]
  rw [nI_z (by omega)]
  by_cases hz : nv (σ.1 1) 3 = 0
  · refine b3Y hz ?_
    refine PW_blk okM_friday 3 rfl SpM_ok ?_
    simp only [wL0, wLc, true_and, w2, lg0, lgi, lgr, lgl, w0, w54_2, q40, q41, q42, q43, q44, Option.toList_some, Option.toList_none, List.cons_append, List.nil_append, sp_no, v7_0, v7_1, v7_2, v7_3, v7_4, v7_5, v7_6, w84]
    exact h2 hr hz
  refine b3N hz ?_
  obtain ⟨n, hn1, hn2, rfl⟩ := hr
  have hkk := h3 n hn1 hn2 rfl hz
  have hIs := Inv_sh hI
  have hp := pcn_le (nv (σ.1 1) 2)
  have e2 : nv (shS (σ.1 1)) 2 = 0 := by
    have : shS (σ.1 1) 2 = nI 0 := by unfold shS; rw [updN (by decide), updN (by decide), updS]; rfl
    exact nv_of this (by decide)
  have e0 : nv (shS (σ.1 1)) 0 = 0 := by
    have : shS (σ.1 1) 0 = nI 0 := by unfold shS; rw [updN (by decide), updS]; rfl
    exact nv_of this (by decide)
  refine PW_blk okM_friday 4 rfl SpM_ok ?_
  simp only [wL0, wLc, true_and, w2, lg0, lgi, lgr, lgl, w54_1, q40, q41, q42, q43, q44, Option.toList_some, Option.toList_none, List.cons_append, List.nil_append, w4, ls00, ls0i, ls0r, ls0l, lsi, lsr, lsl, Option.map_some, w1, w75]
  refine R_shut hI ?_
  simp only [wL0, wLc, true_and, w2, lg0, lgi, lgr, lgl, w54_1, q40, q41, q42, q43, q44, Option.toList_some, Option.toList_none, List.cons_append, List.nil_append, w4, ls00, ls0i, ls0r, ls0l, lsi, lsr, lsl, Option.map_some, w1, w75]
  rw [show upd (upd (upd (σ.1 1) 2 0) 0 0) 1 0 = shS (σ.1 1) from rfl]
  refine b3N (nI_nlt (a := pcn (nv (σ.1 1) 2)) (b := 0) (Nat.zero_le _) (by omega)) ?_
  refine PW_blk okM_friday 6 rfl SpM_ok ?_
  simp only [wL0, wLc, true_and, w0, w71]
  refine PW_blk okM_friday 7 rfl SpM_ok ?_
  simp only [wL0, wLc, true_and, w4, ls00, ls0i, ls0r, ls0l, lsi, lsr, lsl, Option.map_some, w2, lg0, lgi, lgr, lgl, w0, w54_2, q40, q41, q42, q43, q44, Option.toList_some, Option.toList_none, List.cons_append, List.nil_append, w71]
  refine R_mayBy (σ := sr σ 1 (shS (σ.1 1))) (o := 0) hIs (by decide) ?_
  simp only [wL0, wLc, true_and, w4, ls00, ls0i, ls0r, ls0l, lsi, lsr, lsl, Option.map_some, w2, lg0, lgi, lgr, lgl, w0, w54_2, q40, q41, q42, q43, q44, Option.toList_some, Option.toList_none, List.cons_append, List.nil_append, w71, sr1]
  generalize hw : pcn (nv (σ.1 1) 2) = were at *
  have key : ∀ f i c S, i + f = n → Inv S → nv S 3 = nv (σ.1 1) 3 → nv S 0 ≤ 130 * i → K (some (.int (nI (c + (friU f S).1)))) (sr σ 1 (friU f S).2) → PW 1 ev mM_friday 56 [.ref 0, .int (nI n), .int (nI were), .int (nI c), .int (nI (mayN S (nv S 2))), .int (nI i)] [] (sr σ 1 S) K := by
    intro f
    induction f with
    | zero =>
      intro i c S hi hIS h3S h0S hk
      have e : i = n := by omega
      subst e
      refine PW_blk okM_friday 8 rfl SpM_ok ?_
      simp only [wL0, wLc, true_and, w1, lg0, lgi, lgr, lgl, w81]
      refine b3N (nI_nlt (Nat.le_refl _) (by omega)) ?_
      refine PW_blk okM_friday 17 rfl SpM_ok ?_
      simp only [wL0, wLc, true_and, w1, lg0, lgi, lgr, lgl, w84]
      exact hk
    | succ f ih =>
      intro i c S hi hIS h3S h0S hk
      have hG := hIS.2.1.1
      have hG2 := hG.2
      have hn3 := hIS.1.2
      have hT := p2le _ hn3
      have hml := mayN_lt S (nv S 2)
      unfold friU at hk
      refine PW_blk okM_friday 8 rfl SpM_ok ?_
      simp only [wL0, wLc, true_and, w1, lg0, lgi, lgr, lgl, w81]
      refine b3Y (nI_lt (by omega) (by omega)) ?_
      refine PW_blk okM_friday 9 rfl SpM_ok ?_
      simp only [wL0, wLc, true_and, w1, lg0, lgi, lgr, lgl, w72]
      rw [nI_z (by omega)]
      by_cases c1 : mayN S (nv S 2) = 0
      · rw [cif_y (Or.inl c1)] at hk
        refine b2Y c1 ?_
        refine PW_blk okM_friday 17 rfl SpM_ok ?_
        simp only [wL0, wLc, true_and, w1, lg0, lgi, lgr, lgl, w84]
        exact hk
      refine b2N c1 ?_
      refine PW_blk okM_friday 10 rfl SpM_ok ?_
      simp only [wL0, wLc, true_and, w2, lg0, lgi, lgr, lgl, w35, kM0, rM0, kM1, nM1, w0, w39, w54_2, q40, q41, q42, q43, q44, Option.toList_some, Option.toList_none, List.cons_append, List.nil_append, sp_isOut, tn2, vi2_120, w73, sr1]
      rw [hG.1]
      by_cases c2 : outP S (nv S 2)
      · rw [cif_y (Or.inr c2)] at hk
        refine dY (if_pos c2) ?_
        refine PW_blk okM_friday 17 rfl SpM_ok ?_
        simp only [wL0, wLc, true_and, w1, lg0, lgi, lgr, lgl, w84]
        exact hk
      refine dN (if_neg c2) ?_
      rw [cif_n (fun z => z.elim c1 c2)] at hk
      obtain ⟨j, hj, hb⟩ := bit_ex (show mayN S (nv S 2) < 1024 by omega) c1
      have hpp : 0 < pcn (mayN S (nv S 2)) := by
        rcases Nat.eq_zero_or_pos (pcn (mayN S (nv S 2))) with z | z
        · have hpb : ∀ m, j < m → 0 < pcU (mayN S (nv S 2)) m := by
            intro m
            induction m with
            | zero => intro h; omega
            | succ m ihm =>
              intro h
              unfold pcU
              by_cases e : j = m
              · subst e; rw [if_pos hb]; omega
              · have := ihm (by omega); omega
          have := hpb 10 hj
          unfold pcn at z
          omega
        · exact z
      have hple := pcn_le (mayN S (nv S 2))
      have hmod := Nat.mod_lt (drN (drZ (S 9))) hpp
      have hd1 := drN_lt (drZ (S 9))
      have hd2 := drN_lt (drZ (drZ (S 9)))
      obtain ⟨hkb, hk10⟩ := nthF_ok (show mayN S (nv S 2) < 1024 by omega) hmod
      have hkn := (mayN_bit.mp hkb).1
      refine PW_blk okM_friday 11 rfl SpM_ok ?_
      simp only [wL0, wLc, true_and, w2, lg0, lgi, lgr, lgl, w1, w54_1, q40, q41, q42, q43, q44, Option.toList_some, Option.toList_none, List.cons_append, List.nil_append, w55_1, w15, w54_3, w4, ls00, ls0i, ls0r, ls0l, lsi, lsr, lsl, Option.map_some, w0, sp_get, w81]
      refine R_draw ?_
      simp only [wL0, wLc, true_and, w2, lg0, lgi, lgr, lgl, w1, w54_1, q40, q41, q42, q43, q44, Option.toList_some, Option.toList_none, List.cons_append, List.nil_append, w55_1, w15, w54_3, w4, ls00, ls0i, ls0r, ls0l, lsi, lsr, lsl, Option.map_some, w0, sp_get, w81, sr1, sr_sr]
      refine R_bits (by omega) ?_
      simp only [wL0, wLc, true_and, w2, lg0, lgi, lgr, lgl, w1, w54_1, q40, q41, q42, q43, q44, Option.toList_some, Option.toList_none, List.cons_append, List.nil_append, w55_1, w15, w54_3, w4, ls00, ls0i, ls0r, ls0l, lsi, lsr, lsl, Option.map_some, w0, sp_get, w81]
      refine ⟨fun z => ?_, ?_⟩
      · rw [nI_z (by omega)] at z; omega
      rw [pk_rem (by omega) hpp (by omega)]
      refine R_nthOf (by omega) hmod ?_
      simp only [wL0, wLc, true_and, w2, lg0, lgi, lgr, lgl, w1, w54_1, q40, q41, q42, q43, q44, Option.toList_some, Option.toList_none, List.cons_append, List.nil_append, w55_1, w15, w54_3, w4, ls00, ls0i, ls0r, ls0l, lsi, lsr, lsl, Option.map_some, w0, sp_get, w81]
      refine R_draw ?_
      simp only [wL0, wLc, true_and, w2, lg0, lgi, lgr, lgl, w1, w54_1, q40, q41, q42, q43, q44, Option.toList_some, Option.toList_none, List.cons_append, List.nil_append, w55_1, w15, w54_3, w4, ls00, ls0i, ls0r, ls0l, lsi, lsr, lsl, Option.map_some, w0, sp_get, w81, sr1, sr_sr, updS, gv7 hk10, gt7 hk10]
      refine ⟨by decide, ?_⟩
      rw [show (10 : Int32) = nI 10 from rfl, pk_rem (by omega) (by decide) (by decide), fa_upd_twice]
      have hI9 := Inv_9 (v := drZ (drZ (S 9))) hIS
      have et7 : upd S 9 (drZ (drZ (S 9))) (tr (nthF (mayN S (nv S 2)) (drN (drZ (S 9)) % pcn (mayN S (nv S 2)))) 7) = S (tr (nthF (mayN S (nv S 2)) (drN (drZ (S 9)) % pcn (mayN S (nv S 2)))) 7) := updN (by unfold tr; omega)
      have hw7 := (hIS.2.2.2.2.2.2.2.2.1 _ hkn).2.2.2.2.2.2.2.1
      have hw7l := hw7.2
      have n2 : nv (upd S 9 (drZ (drZ (S 9)))) 2 = nv S 2 := nv_ne (by decide)
      have n3 : nv (upd S 9 (drZ (drZ (S 9)))) 3 = nv S 3 := nv_ne (by decide)
      have n0 : nv (upd S 9 (drZ (drZ (S 9)))) 0 = nv S 0 := nv_ne (by decide)
      rw [et7, hw7.1, nI_lt_iff (by omega) (by omega)]
      generalize hkk : nthF (mayN S (nv S 2)) (drN (drZ (S 9)) % pcn (mayN S (nv S 2))) = k at *
      generalize hS1 : upd S 9 (drZ (drZ (S 9))) = S1 at *
      have fin : ∀ c S2 old x, Inv S2 → nv S2 3 = nv (σ.1 1) 3 → nv S2 0 ≤ 130 * (i + 1) → K (some (.int (nI (c + (friU f S2).1)))) (sr σ 1 (friU f S2).2) → PW 1 ev mM_friday 137 [.ref 0, .int (nI n), .int (nI were), .int (nI c), .int old, .int (nI i), .int (nI k), .int x] [] (sr σ 1 S2) K := by
        intro c S2 old x hI2 h32 h02 hk
        have hG' := hI2.2.1.1
        have hG2' := hG'.2
        refine PW_blk okM_friday 16 rfl SpM_ok ?_
        simp only [wL0, wLc, true_and, w2, lg0, lgi, lgr, lgl, w35, kM0, rM0, kM1, nM1, w0, w39, w54_2, q40, q41, q42, q43, q44, Option.toList_some, Option.toList_none, List.cons_append, List.nil_append, w4, ls00, ls0i, ls0r, ls0l, lsi, lsr, lsl, Option.map_some, w7, tn2, vi2_120, w70, sr1, hG'.1]
        refine R_mayBy (σ := sr σ 1 S2) (o := nv S2 2) hI2 (by omega) ?_
        simp only [wL0, wLc, true_and, w2, lg0, lgi, lgr, lgl, w35, kM0, rM0, kM1, nM1, w0, w39, w54_2, q40, q41, q42, q43, q44, Option.toList_some, Option.toList_none, List.cons_append, List.nil_append, w4, ls00, ls0i, ls0r, ls0l, lsi, lsr, lsl, Option.map_some, w7, tn2, vi2_120, w70, sr1]
        refine PW_loc 6 ?_
        rw [show (1 : Int32) = nI 1 from rfl, nI_add]
        exact ih (i + 1) c S2 (by omega) hI2 h32 h02 hk
      by_cases c3 : drN (drZ (drZ (S 9))) % 10 < nv S (tr k 7)
      · rw [if_pos c3] at hk
        refine b3Y c3 ?_
        refine PW_blk okM_friday 12 rfl SpM_ok ?_
        simp only [wL0, wLc, true_and, w0, w70]
        refine PW_blk okM_friday 14 rfl SpM_ok ?_
        simp only [wL0, wLc, true_and, w4, ls00, ls0i, ls0r, ls0l, lsi, lsr, lsl, Option.map_some, w1, lg0, lgi, lgr, lgl, w73]
        refine b3N (by decide) ?_
        exact fin c S1 _ _ hI9 (by rw [n3, h3S]) (by rw [n0]; omega) hk
      · rw [if_neg c3] at hk
        refine b3N c3 ?_
        refine PW_blk okM_friday 13 rfl SpM_ok ?_
        simp only [wL0, wLc, true_and, w0, w71]
        refine PW_blk okM_friday 14 rfl SpM_ok ?_
        simp only [wL0, wLc, true_and, w4, ls00, ls0i, ls0r, ls0l, lsi, lsr, lsl, Option.map_some, w1, lg0, lgi, lgr, lgl, w73]
        refine b3Y trivial ?_
        have htk := takes_le hI9 (k := k) (o := nv S1 2) (by rw [n3]; exact hkn)
        obtain ⟨g1, g2, g3⟩ := Inv_stS hI9 (k := k) (by rw [n3]; exact hkn) (by rw [n0]; omega)
        refine PW_blk okM_friday 15 rfl SpM_ok ?_
        simp only [wL0, wLc, true_and, w2, lg0, lgi, lgr, lgl, w1, w54_2, q40, q41, q42, q43, q44, Option.toList_some, Option.toList_none, List.cons_append, List.nil_append, w7, ls00, ls0i, ls0r, ls0l, lsi, lsr, lsl, Option.map_some, w71]
        refine R_comesOff (σ := sr σ 1 S1) hI9 (by rw [sr1, n3]; exact hkn) ?_
        simp only [wL0, wLc, true_and, w2, lg0, lgi, lgr, lgl, w1, w54_2, q40, q41, q42, q43, q44, Option.toList_some, Option.toList_none, List.cons_append, List.nil_append, w7, ls00, ls0i, ls0r, ls0l, lsi, lsr, lsl, Option.map_some, w71, sr1, sr_sr]
        rw [show (1 : Int32) = nI 1 from rfl, nI_add]
        refine fin (c + 1) _ _ _ g1 (by rw [ag_nv stS_ag (by decide), n3, h3S]) (by rw [g3, n0]; omega) ?_
        rw [show c + 1 + (friU f (stS S1 k)).1 = c + ((friU f (stS S1 k)).1 + 1) by omega]
        exact hk
  have nx := key n 0 0 (shS (σ.1 1)) (by omega) hIs (ag_nv (S := σ.1 1) (S' := shS (σ.1 1)) (fun i hi => by unfold shS; rw [updN (by omega), updN (by omega), updN (by omega)]) (by decide)) (by omega) (by rw [Nat.zero_add]; exact hkk)
  rw [e2] at nx
  exact nx
end MO
