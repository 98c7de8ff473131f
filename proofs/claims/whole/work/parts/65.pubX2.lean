/-! the class's public methods: tape, spots, sheets, images, counts -/
/-- the tape -/
def XT (σ : St2) (T : Nat → Int32) (τ : Nat) : Prop := σ.1 51 1 = nI τ ∧ ∀ i, i < 120 → σ.1 52 i = T i
/-- nothing but the tape's cells has changed -/
def Tf (σ σ' : St2) : Prop := ∀ i, i ≠ 51 → i ≠ 52 → σ'.1 i = σ.1 i
/-- nothing but the sheets' cells has changed -/
def Sf (σ σ' : St2) : Prop := ∀ i, ¬ (54 ≤ i ∧ i ≤ 61) → σ'.1 i = σ.1 i
theorem Sf_sr {k : Nat} {σ σ' : St2} {r : Nat → Int32} (hk : 54 ≤ k ∧ k ≤ 61) (h : Sf σ σ') : Sf σ (sr σ' k r) := fun i hi => by
  rw [sr1n (k := k) (i := i) (fun e => hi (by rw [e]; exact hk))]
  exact h i hi
theorem Sf_r {σ : St2} : Sf σ σ := fun _ _ => rfl
theorem fdU_out {T : Nat → Int32} {τ n : Nat} {b : Int32} : ∀ i q, (q < τ ∨ τ + i ≤ q) → fdU T τ b n i q = T q
  | 0, _, _ => rfl
  | i + 1, q, h => by
    unfold fdU
    rw [updN (by omega)]
    exact fdU_out i q (by omega)
theorem fdU_cong {T T' : Nat → Int32} {τ n : Nat} {b : Int32} (h : ∀ i, i < 120 → T' i = T i) : ∀ i q, q < 120 → fdU T' τ b n i q = fdU T τ b n i q
  | 0, q, hq => h q hq
  | i + 1, q, hq => by
    unfold fdU
    rw [updI, updI]
    by_cases e : q = τ + i
    · rw [if_pos e, if_pos e]
    · rw [if_neg e, if_neg e]
      exact fdU_cong h i q hq
theorem v120 {k : Nat} (h : k < 120) : vp_in (nI k) 120 = True := eq_true (vp_in_nI h (by decide))
theorem c120 {k : Nat} (h : k < 120) : (nI k).toNatClampNeg = k := nI_clamp (by omega)
section QX
variable {ev : EV} {σ : St2} {K : PO} {S : Nat → Int32}
theorem X_tput {b : Int32} {n τ : Nat} (h1 : σ.1 51 1 = nI τ) (hn : n ≤ 4) (hτ : τ + n ≤ 120) (hk : K (some (.int (nI (τ + n)))) (sr (sr σ 52 (fdU (σ.1 52) τ b n n)) 51 (upd (σ.1 51) 1 (nI (τ + n))))) : Rn 0 ev mT_put [.ref 51, .int b, .int (nI n)] σ K := by
  refine Rn_V (by decide) rc3 rfl rfl ?_
  refine PW_blk okT_put 0 rfl SpX_ok ?_
  simp only [wL0, wLc, true_and, w1, lg0, lgi, lgr, lgl, w0, w12, w4, ls00, ls0i, ls0r, ls0l, lsi, lsr, lsl, Option.map_some, w71]
  have key := lp_up (n := n) (P := fun i => PW 0 ev mT_put 4 [.ref 51, .int b, .int (nI n), .int (nI (n - i) - 1)] [] (sr (sr σ 52 (fdU (σ.1 52) τ b n i)) 51 (upd (σ.1 51) 1 (nI (τ + i)))) K) ?_ ?_ 0 (Nat.zero_le _)
  · have e : sr (sr σ 52 (fdU (σ.1 52) τ b n 0)) 51 (upd (σ.1 51) 1 (nI (τ + 0))) = σ := by
      rw [show fdU (σ.1 52) τ b n 0 = σ.1 52 from rfl, sr_self, Nat.add_zero, fa_upd_same h1, sr_self]
    rw [e] at key
    exact key
  · refine PW_blk okT_put 1 rfl SpX_ok ?_
    simp only [wL0, wLc, true_and, w1, lg0, lgi, lgr, lgl, w74]
    refine b2Y (by rw [Nat.sub_self]; decide) ?_
    refine PW_blk okT_put 4 rfl SpX_ok ?_
    simp only [wL0, wLc, true_and, w2, lg0, lgi, lgr, lgl, w33, kX51, w84, sr1, updS]
    exact hk
  · intro i hi ih
    obtain ⟨m, hm⟩ : ∃ m, n - i = m + 1 := ⟨n - i - 1, by omega⟩
    rw [hm, m1_s]
    refine PW_blk okT_put 1 rfl SpX_ok ?_
    simp only [wL0, wLc, true_and, w1, lg0, lgi, lgr, lgl, w74]
    refine b2N (lt0 (by omega)) ?_
    refine PW_blk okT_put 2 rfl SpX_ok ?_
    simp only [wL0, wLc, true_and, w2, lg0, lgi, lgr, lgl, w33, kX51, w0, w81, sr1, updS]
    refine b3Y (nI_lt (show τ + i < 120 by omega) (by decide)) ?_
    have e1 : (1 : Int32) = nI 1 := rfl
    have e2 : n - (i + 1) = m := by omega
    have e3 : (b >>> ((8 : Int32) * nI m &&& 31)) &&& 255 = (b >>> (nI (8 * (n - 1 - i)) &&& 31)) &&& 255 := by
      rw [show (8 : Int32) = nI 8 from rfl, pk_mul, show n - 1 - i = m by omega]
    have c51 : ∀ (r q r' : Nat → Int32), sr (sr (sr σ 52 r) 51 q) 52 r' = sr (sr σ 52 r') 51 q := fun r q r' => by rw [sr_comm (k := 51) (k' := 52) (by decide), sr_sr]
    refine PW_blk okT_put 3 rfl SpX_ok ?_
    simp only [wL0, wLc, true_and, w2, lg0, lgi, lgr, lgl, w35, kX51, rX51_0, kX52, nX52, w33, w1, w0, w13, w20, w16, w40, w8i, w8r, w11, w36, w7, ls00, ls0i, ls0r, ls0l, lsi, lsr, lsl, Option.map_some, tn1, tn8, w70, si_is, sr1, updS, sr1n (show 52 ≠ 51 by decide), sr1n (show 51 ≠ 52 by decide), v120 (show τ + i < 120 by omega), c120 (show τ + i < 120 by omega), c51, sr_sr, e3, m1_add, fa_upd_twice]
    rw [e1, nI_add]
    rw [e2] at ih
    rw [← e1]
    exact ih
theorem X_feed {b c : Int32} {T : Nat → Int32} {τ : Nat} (hT : XT σ T τ) (hτ : τ ≤ 120) (h1 : ¬ rgI c 1 4 → K (some (.int (-1000001))) (noX σ 0)) (h2 : ∀ n, 1 ≤ n → n ≤ 4 → c = nI n → 120 < τ + n → K (some (.int (-1000002))) (noX σ 1)) (h3 : ∀ n, 1 ≤ n → n ≤ 4 → c = nI n → τ + n ≤ 120 → ∀ σ', Tf σ σ' → XT σ' (fdU T τ b n n) (τ + n) → K (some (.int (nI (τ + n)))) σ') : Rn 0 ev mX_feed [.ref 0, .int b, .int c] σ K := by
  refine Rn_V (by decide) rc5 rfl rfl ?_
  have no : ¬ rgI c 1 4 → PW 0 ev mX_feed 10 [.ref 0, .int b, .int c] [] σ K := by
    intro z
    refine PW_blk okX_feed 2 rfl SpX_ok ?_
    simp only [wL0, wLc, true_and, w2, lg0, lgi, lgr, lgl, w0, w54_2, q40, q41, q42, q43, q44, Option.toList_some, Option.toList_none, List.cons_append, List.nil_append, xp_X_tell, tl0, tl1, tl2, tl3, tl4, tl5, tl6, tq0, tq1, tq2, tq3, tq4, tq5, tq6, w84]
    exact h1 z
  refine PW_blk okX_feed 0 rfl SpX_ok ?_
  simp only [wL0, wLc, true_and, w1, lg0, lgi, lgr, lgl, w0, w80]
  by_cases c1 : c < 1
  · refine b2Y c1 (no (fun ⟨n, a, d, e⟩ => ?_))
    rw [e] at c1
    exact nI_nlt (a := n) (b := 1) a (by omega) c1
  refine b2N c1 ?_
  have c0 : ¬ c < 0 := fun z => c1 (fa_trans z (by decide))
  obtain ⟨n, hn, rfl⟩ := ge0 c0
  rw [show (1 : Int32) = nI 1 from rfl, nI_lt_iff hn (by decide)] at c1
  refine PW_blk okX_feed 1 rfl SpX_ok ?_
  simp only [wL0, wLc, true_and, w1, lg0, lgi, lgr, lgl, w0, w83]
  rw [show (4 : Int32) = nI 4 from rfl, nI_lt_iff (by decide) hn]
  by_cases c2 : 4 < n
  · exact b3Y c2 (no (rg_big hn c2 (by decide)))
  refine b3N c2 ?_
  have esub : (120 : Int32) - nI τ = nI (120 - τ) := by rw [show (120 : Int32) = nI 120 from rfl, pk_sub hτ]
  refine PW_blk okX_feed 3 rfl SpX_ok ?_
  simp only [wL0, wLc, true_and, w1, lg0, lgi, lgr, lgl, w0, w2, w35, kX0, rX0_5, w54_1, q40, q41, q42, q43, q44, Option.toList_some, Option.toList_none, List.cons_append, List.nil_append, xp_T_size, w12, w83, hT.1, esub]
  rw [nI_lt_iff (by omega) (by omega)]
  by_cases c3 : 120 - τ < n
  · refine b3Y c3 ?_
    refine PW_blk okX_feed 4 rfl SpX_ok ?_
    simp only [wL0, wLc, true_and, w2, lg0, lgi, lgr, lgl, w0, w54_2, q40, q41, q42, q43, q44, Option.toList_some, Option.toList_none, List.cons_append, List.nil_append, xp_X_tell, tl0, tl1, tl2, tl3, tl4, tl5, tl6, tq0, tq1, tq2, tq3, tq4, tq5, tq6, w84]
    exact h2 n (by omega) (by omega) rfl (by omega)
  refine b3N c3 ?_
  refine PW_blk okX_feed 5 rfl SpX_ok ?_
  simp only [wL0, wLc, true_and, w2, lg0, lgi, lgr, lgl, w35, kX0, rX0_5, w1, w54_3, q40, q41, q42, q43, q44, Option.toList_some, Option.toList_none, List.cons_append, List.nil_append, w84]
  refine X_tput hT.1 (by omega) (by omega) ?_
  simp only [wL0, wLc, true_and, w2, lg0, lgi, lgr, lgl, w35, kX0, rX0_5, w1, w54_3, q40, q41, q42, q43, q44, Option.toList_some, Option.toList_none, List.cons_append, List.nil_append, w84]
  refine h3 n (by omega) (by omega) rfl (by omega) _ (fun i g1 g2 => by rw [sr1n g1, sr1n g2]) ⟨?_, fun i hi => ?_⟩
  · rw [sr1, updS]
  · rw [sr1n (by decide), sr1]
    exact fdU_cong hT.2 n i hi
theorem X_wipe {T : Nat → Int32} {τ : Nat} (hT : XT σ T τ) (hk : ∀ σ', Tf σ σ' → XT σ' T 0 → K (some (.int (nI τ))) σ') : Rn 0 ev mX_wipe [.ref 0] σ K := by
  refine Rn_V (by decide) rc5 rfl rfl ?_
  refine PW_blk okX_wipe 0 rfl SpX_ok ?_
  simp only [wL0, wLc, true_and, w2, lg0, lgi, lgr, lgl, w35, kX0, rX0_5, w54_1, q40, q41, q42, q43, q44, Option.toList_some, Option.toList_none, List.cons_append, List.nil_append, xp_T_clear, w84, hT.1]
  refine hk _ (fun i g1 g2 => sr1n g1) ⟨?_, fun i hi => ?_⟩
  · rw [sr1, updS]; rfl
  · rw [sr1n (by decide)]; exact hT.2 i hi
theorem X_hold {s l : Int32} (hX : XC σ 1 S) (hI : Inv S) (h1 : ¬ (rgI s 0 9 ∧ (l = -1 ∨ hasL S l)) → K (some (.int (-1000001))) (noX σ 0)) (h2 : ∀ i, i ≤ 9 → s = nI i → (l = -1 ∨ hasL S l) → ∀ σ', Cf 1 σ σ' → XC σ' 1 (upd S (110 + i) l) → K (some (.int 1)) σ') : Rn 0 ev mX_hold [.ref 0, .int s, .int l] σ K := by
  have hc := CH1
  have hn10 := hI.1.2
  refine Rn_V (by decide) rc5 rfl rfl ?_
  have no : ¬ (rgI s 0 9 ∧ (l = -1 ∨ hasL S l)) → PW 0 ev mX_hold 23 [.ref 0, .int s, .int l] [] σ K := by
    intro z
    refine PW_blk okX_hold 3 rfl SpX_ok ?_
    simp only [wL0, wLc, true_and, w2, lg0, lgi, lgr, lgl, w0, w54_2, q40, q41, q42, q43, q44, Option.toList_some, Option.toList_none, List.cons_append, List.nil_append, xp_X_tell, tl0, tl1, tl2, tl3, tl4, tl5, tl6, tq0, tq1, tq2, tq3, tq4, tq5, tq6, w84]
    exact h1 z
  refine PW_blk okX_hold 0 rfl SpX_ok ?_
  simp only [wL0, wLc, true_and, w1, lg0, lgi, lgr, lgl, w55_1, q40, q41, q42, q43, q44, Option.toList_some, Option.toList_none, List.cons_append, List.nil_append, xp_C_isSpot, w72]
  by_cases hr : ∃ n, n < 10 ∧ s = nI n
  rotate_left
  · exact bN (in0N (m := 10) (by decide) hr) (no (fun z => hr (rg_lt.mp z.1)))
  refine bY (in0Y (m := 10) (by decide) hr) ?_
  obtain ⟨i, hi, rfl⟩ := hr
  have yes : (l = -1 ∨ hasL S l) → PW 0 ev mX_hold 30 [.ref 0, .int (nI i), .int l] [] σ K := by
    intro z
    refine PW_blk okX_hold 4 rfl SpX_ok ?_
    simp only [wL0, wLc, true_and, w2, lg0, lgi, lgr, lgl, w35, kX0, rX0_0, w1, w54_3, q40, q41, q42, q43, q44, Option.toList_some, Option.toList_none, List.cons_append, List.nil_append, w0, w84]
    refine X_putSpot hc hi ?_
    simp only [wL0, wLc, true_and, w2, lg0, lgi, lgr, lgl, w35, kX0, rX0_0, w1, w54_3, q40, q41, q42, q43, q44, Option.toList_some, Option.toList_none, List.cons_append, List.nil_append, w0, w84]
    exact h2 i (by omega) rfl z _ (Cf_sr (by omega) Cf_r) (XC_p hi hn10 hX)
  refine PW_blk okX_hold 1 rfl SpX_ok ?_
  simp only [wL0, wLc, true_and, w1, lg0, lgi, lgr, lgl, w0, w78]
  by_cases c1 : l = -1
  · exact b2Y c1 (yes (Or.inl c1))
  refine b2N c1 ?_
  refine PW_blk okX_hold 2 rfl SpX_ok ?_
  simp only [wL0, wLc, true_and, w2, lg0, lgi, lgr, lgl, w35, kX0, rX0_0, w1, w54_2, q40, q41, q42, q43, q44, Option.toList_some, Option.toList_none, List.cons_append, List.nil_append, xp_C_has, CH_e hc, w73, x3 hX hI]
  by_cases hl : hasL S l
  · exact dY (hasS hn10 hl) (yes (Or.inr hl))
  · exact dN (hasS' hn10 hl) (no (fun z => z.2.elim c1 hl))
theorem X_as {s c : Int32} (hX : XC σ 1 S) (hI : Inv S) (h1 : ¬ (rgI s 0 9 ∧ rgI c 0 6) → K (some (.int (-1000001))) (noX σ 0)) (h2 : ∀ i, i ≤ 9 → s = nI i → rgI c 0 6 → S (110 + i) = -1 → K (some (.int (-1000006))) (noX σ 5)) (h3 : ∀ i k d, i ≤ 9 → s = nI i → d ≤ 6 → c = nI d → k < nv S 3 → S (110 + i) = nI k → isU 3 (nv S (tr k 0)) d = true → K (some (.int (nI k))) σ) (h4 : ∀ i k d, i ≤ 9 → s = nI i → d ≤ 6 → c = nI d → k < nv S 3 → S (110 + i) = nI k → isU 3 (nv S (tr k 0)) d = false → K (some (.int (-1000003))) (noX σ 2)) : Rn 0 ev mX_as [.ref 0, .int s, .int c] σ K := by
  have hc := CH1
  have hn10 := hI.1.2
  refine Rn_V (by decide) rc5 rfl rfl ?_
  have no : ¬ (rgI s 0 9 ∧ rgI c 0 6) → PW 0 ev mX_as 14 [.ref 0, .int s, .int c] [] σ K := by
    intro z
    refine PW_blk okX_as 2 rfl SpX_ok ?_
    simp only [wL0, wLc, true_and, w2, lg0, lgi, lgr, lgl, w0, w54_2, q40, q41, q42, q43, q44, Option.toList_some, Option.toList_none, List.cons_append, List.nil_append, xp_X_tell, tl0, tl1, tl2, tl3, tl4, tl5, tl6, tq0, tq1, tq2, tq3, tq4, tq5, tq6, w84]
    exact h1 z
  refine PW_blk okX_as 0 rfl SpX_ok ?_
  simp only [wL0, wLc, true_and, w1, lg0, lgi, lgr, lgl, w55_1, q40, q41, q42, q43, q44, Option.toList_some, Option.toList_none, List.cons_append, List.nil_append, xp_C_isSpot, w72]
  by_cases hr : ∃ n, n < 10 ∧ s = nI n
  rotate_left
  · exact bN (in0N (m := 10) (by decide) hr) (no (fun z => hr (rg_lt.mp z.1)))
  refine bY (in0Y (m := 10) (by decide) hr) ?_
  obtain ⟨i, hi, rfl⟩ := hr
  refine PW_blk okX_as 1 rfl SpX_ok ?_
  simp only [wL0, wLc, true_and, w1, lg0, lgi, lgr, lgl, w55_1, q40, q41, q42, q43, q44, Option.toList_some, Option.toList_none, List.cons_append, List.nil_append, xp_C_isKind, w73]
  by_cases hd : ∃ n, n < 7 ∧ c = nI n
  rotate_left
  · exact dN (in0N (m := 7) (by decide) hd) (no (fun z => hd (rg_lt.mp z.2)))
  refine dY (in0Y (m := 7) (by decide) hd) ?_
  have hd' := rg_lt.mpr hd
  obtain ⟨d, hd7, rfl⟩ := hd
  refine PW_blk okX_as 3 rfl SpX_ok ?_
  simp only [wL0, wLc, true_and, w2, lg0, lgi, lgr, lgl, w35, kX0, rX0_0, w1, w54_2, q40, q41, q42, q43, q44, Option.toList_some, Option.toList_none, List.cons_append, List.nil_append, w4, ls00, ls0i, ls0r, ls0l, lsi, lsr, lsl, Option.map_some, w0, w79]
  refine X_atSpot hc hX hi ?_
  simp only [wL0, wLc, true_and, w2, lg0, lgi, lgr, lgl, w35, kX0, rX0_0, w1, w54_2, q40, q41, q42, q43, q44, Option.toList_some, Option.toList_none, List.cons_append, List.nil_append, w4, ls00, ls0i, ls0r, ls0l, lsi, lsr, lsl, Option.map_some, w0, w79]
  rcases hI.2.2.2.2.2.2.2.2.2 i hi with z | ⟨k, z1, z2⟩
  · refine b3Y z ?_
    refine PW_blk okX_as 4 rfl SpX_ok ?_
    simp only [wL0, wLc, true_and, w2, lg0, lgi, lgr, lgl, w0, w54_2, q40, q41, q42, q43, q44, Option.toList_some, Option.toList_none, List.cons_append, List.nil_append, xp_X_tell, tl0, tl1, tl2, tl3, tl4, tl5, tl6, tq0, tq1, tq2, tq3, tq4, tq5, tq6, w84]
    exact h2 i (by omega) rfl hd' z
  · rw [z2]
    refine b3N (m1_ne (by omega)) ?_
    have hK0 := (hI.2.2.2.2.2.2.2.2.1 k z1).1
    have hK0l := hK0.2
    refine PW_blk okX_as 5 rfl SpX_ok ?_
    simp only [wL0, wLc, true_and, w2, lg0, lgi, lgr, lgl, w35, kX0, rX0_0, w0, w1, w54_3, q40, q41, q42, q43, q44, Option.toList_some, Option.toList_none, List.cons_append, List.nil_append, w55_2, w72]
    refine X_trait (w := 0) hc hX hI z1 (by decide) ?_
    simp only [wL0, wLc, true_and, w2, lg0, lgi, lgr, lgl, w35, kX0, rX0_0, w0, w1, w54_3, q40, q41, q42, q43, q44, Option.toList_some, Option.toList_none, List.cons_append, List.nil_append, w55_2, w72]
    rw [hK0.1]
    refine X_isUnder (by omega) hd7 ?_
    simp only [wL0, wLc, true_and, w2, lg0, lgi, lgr, lgl, w35, kX0, rX0_0, w0, w1, w54_3, q40, q41, q42, q43, q44, Option.toList_some, Option.toList_none, List.cons_append, List.nil_append, w55_2, w72]
    by_cases u : isU 3 (nv S (tr k 0)) d = true
    · refine bY1 u ?_
      refine PW_blk okX_as 6 rfl SpX_ok ?_
      simp only [wL0, wLc, true_and, w1, lg0, lgi, lgr, lgl, w70]
      refine PW_blk okX_as 8 rfl SpX_ok ?_
      simp only [wL0, w84]
      exact h3 i k d (by omega) rfl (by omega) rfl z1 z2 u
    · refine bN1 u ?_
      refine PW_blk okX_as 7 rfl SpX_ok ?_
      simp only [wL0, wLc, true_and, w2, lg0, lgi, lgr, lgl, w0, w54_2, q40, q41, q42, q43, q44, Option.toList_some, Option.toList_none, List.cons_append, List.nil_append, xp_X_tell, tl0, tl1, tl2, tl3, tl4, tl5, tl6, tq0, tq1, tq2, tq3, tq4, tq5, tq6, w71]
      refine PW_blk okX_as 8 rfl SpX_ok ?_
      simp only [wL0, w84]
      exact h4 i k d (by omega) rfl (by omega) rfl z1 z2 (by simpa using u)
theorem wiY {b : Int32} (h : b = 0 ∨ b = 8 ∨ b = 16 ∨ b = 32) : wiF b = 1 := by
  rcases h with rfl | rfl | rfl | rfl <;> rfl
theorem wiN {b : Int32} (h : ¬ (b = 0 ∨ b = 8 ∨ b = 16 ∨ b = 32)) : wiF b = 0 := by
  unfold wiF
  rw [if_neg (fun z => h (Or.inl z)), if_neg (fun z => h (Or.inr (Or.inl z))), if_neg (fun z => h (Or.inr (Or.inr (Or.inl z)))), if_neg (fun z => h (Or.inr (Or.inr (Or.inr z))))]
theorem XS_other {l : Nat} {W N C W' N' C' : Nat → Int32} {σ' : St2} (hS : XS σ l W N C) (h1 : σ'.1 (54 + 2 * l) = σ.1 (54 + 2 * l)) (h2 : σ'.1 (54 + 2 * l + 1) = σ.1 (54 + 2 * l + 1)) (hW : W' l = W l) (hN : N' l = N l) (hC : ∀ q, q < 40 → C' (40 * l + q) = C (40 * l + q)) : XS σ' l W' N' C' := by
  unfold XS
  rw [h1, h2, hW, hN]
  exact ⟨hS.1, hS.2.1, fun q hq => by rw [hC q hq]; exact hS.2.2 q hq⟩
theorem X_sheet {s b n : Int32} {W N C : Nat → Int32} (hS : ∀ j, j < 4 → XS σ j W N C) (h1 : ¬ (rgI s 0 3 ∧ (b = 0 ∨ b = 8 ∨ b = 16 ∨ b = 32)) → K (some (.int (-1000001))) (noX σ 0)) (h2 : rgI s 0 3 → (b = 0 ∨ b = 8 ∨ b = 16 ∨ b = 32) → n < 0 → K (some (.int (-1000007))) (noX σ 6)) (h3 : rgI s 0 3 → (b = 0 ∨ b = 8 ∨ b = 16 ∨ b = 32) → 40 < n → K (some (.int (-1000001))) (noX σ 0)) (h4 : ∀ j m, j ≤ 3 → s = nI j → (b = 0 ∨ b = 8 ∨ b = 16 ∨ b = 32) → m ≤ 40 → n = nI m → ∀ σ', Sf σ σ' → (∀ l, l < 4 → XS σ' l (upd W j b) (upd N j (if b = 0 then 0 else nI m)) (clC C (40 * j) 40)) → K (some (.int (if b = 0 then 0 else nI m))) σ') : Rn 0 ev mX_sheet [.ref 0, .int s, .int b, .int n] σ K := by
  refine Rn_V (by decide) rc5 rfl rfl ?_
  have no : ¬ (rgI s 0 3 ∧ (b = 0 ∨ b = 8 ∨ b = 16 ∨ b = 32)) → PW 0 ev mX_sheet 15 [.ref 0, .int s, .int b, .int n] [] σ K := by
    intro z
    refine PW_blk okX_sheet 2 rfl SpX_ok ?_
    simp only [wL0, wLc, true_and, w2, lg0, lgi, lgr, lgl, w0, w54_2, q40, q41, q42, q43, q44, Option.toList_some, Option.toList_none, List.cons_append, List.nil_append, xp_X_tell, tl0, tl1, tl2, tl3, tl4, tl5, tl6, tq0, tq1, tq2, tq3, tq4, tq5, tq6, w84]
    exact h1 z
  refine PW_blk okX_sheet 0 rfl SpX_ok ?_
  simp only [wL0, wLc, true_and, w2, lg0, lgi, lgr, lgl, w1, w54_2, q40, q41, q42, q43, q44, Option.toList_some, Option.toList_none, List.cons_append, List.nil_append, xp_X_isSheet, w72]
  by_cases hr : ∃ n, n < 4 ∧ s = nI n
  rotate_left
  · exact bN (in0N (m := 4) (by decide) hr) (no (fun z => hr (rg_lt.mp z.1)))
  refine bY (in0Y (m := 4) (by decide) hr) ?_
  refine PW_blk okX_sheet 1 rfl SpX_ok ?_
  simp only [wL0, wLc, true_and, w1, lg0, lgi, lgr, lgl, w55_1, q40, q41, q42, q43, q44, Option.toList_some, Option.toList_none, List.cons_append, List.nil_append, xp_S_isWidth, w73]
  by_cases hb : b = 0 ∨ b = 8 ∨ b = 16 ∨ b = 32
  rotate_left
  · exact dN (wiN hb) (no (fun z => hb z.2))
  refine dY (wiY hb) ?_
  have hr' := rg_lt.mpr hr
  obtain ⟨j, hj, rfl⟩ := hr
  refine PW_blk okX_sheet 3 rfl SpX_ok ?_
  simp only [wL0, wLc, true_and, w1, lg0, lgi, lgr, lgl, w75]
  by_cases c1 : n < 0
  · refine b3Y c1 ?_
    refine PW_blk okX_sheet 4 rfl SpX_ok ?_
    simp only [wL0, wLc, true_and, w2, lg0, lgi, lgr, lgl, w0, w54_2, q40, q41, q42, q43, q44, Option.toList_some, Option.toList_none, List.cons_append, List.nil_append, xp_X_tell, tl0, tl1, tl2, tl3, tl4, tl5, tl6, tq0, tq1, tq2, tq3, tq4, tq5, tq6, w84]
    exact h2 hr' hb c1
  refine b3N c1 ?_
  refine PW_blk okX_sheet 5 rfl SpX_ok ?_
  simp only [wL0, wLc, true_and, w1, lg0, lgi, lgr, lgl, w0, w83]
  by_cases c2 : (40 : Int32) < n
  · refine b3Y c2 ?_
    refine PW_blk okX_sheet 6 rfl SpX_ok ?_
    simp only [wL0, wLc, true_and, w2, lg0, lgi, lgr, lgl, w0, w54_2, q40, q41, q42, q43, q44, Option.toList_some, Option.toList_none, List.cons_append, List.nil_append, xp_X_tell, tl0, tl1, tl2, tl3, tl4, tl5, tl6, tq0, tq1, tq2, tq3, tq4, tq5, tq6, w84]
    exact h3 hr' hb c2
  refine b3N c2 ?_
  obtain ⟨m, hm, rfl⟩ := ge0 c1
  rw [show (40 : Int32) = nI 40 from rfl, nI_lt_iff (by decide) hm] at c2
  have hs := SHj hj
  refine PW_blk okX_sheet 7 rfl SpX_ok ?_
  simp only [wL0, wLc, true_and, w2, lg0, lgi, lgr, lgl, w35, kX0, rX0_6, kX53, nX53, w1, w42, w54_3, q40, q41, q42, q43, q44, Option.toList_some, Option.toList_none, List.cons_append, List.nil_append, w84, v4 hj, c10 (show j < 10 by omega), rfj hj]
  refine X_begin hs (by omega) (fun r2 hr2 => ?_)
  simp only [wL0, wLc, true_and, w2, lg0, lgi, lgr, lgl, w35, kX0, rX0_6, kX53, nX53, w1, w42, w54_3, q40, q41, q42, q43, q44, Option.toList_some, Option.toList_none, List.cons_append, List.nil_append, w84]
  refine h4 j m (by omega) rfl hb (by omega) rfl _ (Sf_sr (by omega) (Sf_sr (by omega) Sf_r)) (fun l hl => ?_)
  by_cases e : l = j
  · subst e
    refine ⟨?_, ?_, fun q hq => ?_⟩
    · rw [sr1n (by omega), sr1, updN (by decide), updS, updS]
    · rw [sr1n (by omega), sr1, updS, updS]
    · rw [sr1, hr2 q hq]
      unfold clC
      rw [if_pos (by omega)]
  · refine XS_other (hS l hl) (by rw [sr1n (by omega), sr1n (by omega)]) (by rw [sr1n (by omega), sr1n (by omega)]) (updN e) (updN e) (fun q hq => ?_)
    unfold clC
    rw [if_neg (by omega)]
theorem X_write {s i v : Int32} {W N C : Nat → Int32} (hS : ∀ j, j < 4 → XS σ j W N C) (hSh : ShI W N) (h1 : ¬ rgI s 0 3 → K (some (.int (-1000001))) (noX σ 0)) (h2 : ∀ j, j < 4 → s = nI j → W j = 0 → K (some (.int (-1000006))) (noX σ 5)) (h3 : ∀ j, j < 4 → s = nI j → ¬ W j = 0 → (¬ ∃ q, q < nv N j ∧ i = nI q) → K (some (.int (-1000001))) (noX σ 0)) (h4 : ∀ j q, j < 4 → s = nI j → ¬ W j = 0 → q < nv N j → i = nI q → ∀ σ', Sf σ σ' → (∀ l, l < 4 → XS σ' l W N (upd C (40 * j + q) (nrw (W j) v))) → K (some (.int 1)) σ') : Rn 0 ev mX_write [.ref 0, .int s, .int i, .int v] σ K := by
  refine Rn_V (by decide) rc5 rfl rfl ?_
  refine PW_blk okX_write 0 rfl SpX_ok ?_
  simp only [wL0, wLc, true_and, w2, lg0, lgi, lgr, lgl, w1, w54_2, q40, q41, q42, q43, q44, Option.toList_some, Option.toList_none, List.cons_append, List.nil_append, w4, ls00, ls0i, ls0r, ls0l, lsi, lsr, lsl, Option.map_some, w72]
  refine X_sheetFinding hS (fun z => ?_) (fun j hj e z => ?_) (fun j hj e z => ?_)
  · simp only [wL0, wLc, true_and, w2, lg0, lgi, lgr, lgl, w1, w54_2, q40, q41, q42, q43, q44, Option.toList_some, Option.toList_none, List.cons_append, List.nil_append, w4, ls00, ls0i, ls0r, ls0l, lsi, lsr, lsl, Option.map_some, w72]
    refine b2N (by decide) ?_
    refine PW_blk okX_write 1 rfl SpX_ok ?_
    simp only [wL0, wLc, true_and, w2, lg0, lgi, lgr, lgl, w1, w54_2, q40, q41, q42, q43, q44, Option.toList_some, Option.toList_none, List.cons_append, List.nil_append, xp_X_tell, tl0, tl1, tl2, tl3, tl4, tl5, tl6, tq0, tq1, tq2, tq3, tq4, tq5, tq6, w84]
    exact h1 z
  · simp only [wL0, wLc, true_and, w2, lg0, lgi, lgr, lgl, w1, w54_2, q40, q41, q42, q43, q44, Option.toList_some, Option.toList_none, List.cons_append, List.nil_append, w4, ls00, ls0i, ls0r, ls0l, lsi, lsr, lsl, Option.map_some, w72]
    refine b2N (by decide) ?_
    refine PW_blk okX_write 1 rfl SpX_ok ?_
    simp only [wL0, wLc, true_and, w2, lg0, lgi, lgr, lgl, w1, w54_2, q40, q41, q42, q43, q44, Option.toList_some, Option.toList_none, List.cons_append, List.nil_append, xp_X_tell, tl0, tl1, tl2, tl3, tl4, tl5, tl6, tq0, tq1, tq2, tq3, tq4, tq5, tq6, w84]
    exact h2 j hj e z
  · subst e
    simp only [wL0, wLc, true_and, w2, lg0, lgi, lgr, lgl, w1, w54_2, q40, q41, q42, q43, q44, Option.toList_some, Option.toList_none, List.cons_append, List.nil_append, w4, ls00, ls0i, ls0r, ls0l, lsi, lsr, lsl, Option.map_some, w72]
    refine b2Y trivial ?_
    have hN := (hSh j hj).2
    have hN2 := hN.2
    have hs := SHj hj
    have e1 := (hS j hj).1
    have e2 : σ.1 (54 + 2 * j) 2 = nI (nv N j) := (hS j hj).2.1.trans hN.1
    refine PW_blk okX_write 2 rfl SpX_ok ?_
    simp only [wL0, wLc, true_and, w2, lg0, lgi, lgr, lgl, w35, kX0, rX0_6, kX53, nX53, w1, w42, w54_2, q40, q41, q42, q43, q44, Option.toList_some, Option.toList_none, List.cons_append, List.nil_append, xp_S_has, SH_e hs, w73, v4 hj, c10 (show j < 10 by omega), rfj hj, e2]
    by_cases hq : ∃ q, q < nv N j ∧ i = nI q
    rotate_left
    · refine dN (hasN (m := 40) hN2 (by decide) hq) ?_
      refine PW_blk okX_write 3 rfl SpX_ok ?_
      simp only [wL0, wLc, true_and, w2, lg0, lgi, lgr, lgl, w0, w54_2, q40, q41, q42, q43, q44, Option.toList_some, Option.toList_none, List.cons_append, List.nil_append, xp_X_tell, tl0, tl1, tl2, tl3, tl4, tl5, tl6, tq0, tq1, tq2, tq3, tq4, tq5, tq6, w84]
      exact h3 j hj rfl z hq
    refine dY (hasY (m := 40) hN2 (by decide) hq) ?_
    obtain ⟨q, hq, rfl⟩ := hq
    refine PW_blk okX_write 4 rfl SpX_ok ?_
    simp only [wL0, wLc, true_and, w2, lg0, lgi, lgr, lgl, w35, kX0, rX0_6, kX53, nX53, w1, w42, w54_3, q40, q41, q42, q43, q44, Option.toList_some, Option.toList_none, List.cons_append, List.nil_append, w0, tn1, w84, v4 hj, c10 (show j < 10 by omega), rfj hj]
    refine X_put hs e2 hN2 hq ?_
    simp only [wL0, wLc, true_and, w2, lg0, lgi, lgr, lgl, w35, kX0, rX0_6, kX53, nX53, w1, w42, w54_3, q40, q41, q42, q43, q44, Option.toList_some, Option.toList_none, List.cons_append, List.nil_append, w0, tn1, w84]
    refine h4 j q hj rfl z hq rfl _ (Sf_sr (by omega) Sf_r) (fun l hl => ?_)
    rw [e1]
    by_cases e : l = j
    · subst e
      refine ⟨?_, ?_, fun p hp => ?_⟩
      · rw [sr1n (by omega)]; exact (hS l hl).1
      · rw [sr1n (by omega)]; exact (hS l hl).2.1
      · rw [sr1, updI, updI]
        by_cases e : p = q
        · rw [if_pos e, if_pos (by omega)]
        · rw [if_neg e, if_neg (by omega)]; exact (hS l hl).2.2 p hp
    · refine XS_other (hS l hl) (by rw [sr1n (by omega)]) (by rw [sr1n (by omega)]) rfl rfl (fun p hp => ?_)
      rw [updN (by omega)]
theorem X_copyTo {c d p q n m1 m2 : Nat} (hs : SH c) (hs2 : SH d) (e1 : σ.1 c 2 = nI m1) (e2 : σ.1 d 2 = nI m2) (hm1 : m1 ≤ 40) (hm2 : m2 ≤ 40) (h1 : p + n ≤ m1) (h2 : q + n ≤ m2) (hk : K none (sr σ (d + 1) (va_cpy (σ.1 (c + 1)) (σ.1 (d + 1)) p q n))) : Rn 0 ev mS_copyTo [.ref c, .int (nI p), .ref d, .int (nI q), .int (nI n)] σ K := by
  refine Rn_V (by decide) (rcH hs) rfl rfl ?_
  refine PW_blk okS_copyTo 0 rfl SpX_ok ?_
  simp only [wL0, wLc, true_and, w2, lg0, lgi, lgr, lgl, w1, w54_3, q40, q41, q42, q43, q44, Option.toList_some, Option.toList_none, List.cons_append, List.nil_append, xp_S_hasRun, SH_e hs, w72, e1, hrY hm1 h1]
  refine bY rfl ?_
  refine PW_blk okS_copyTo 1 rfl SpX_ok ?_
  simp only [wL0, wLc, true_and, w2, lg0, lgi, lgr, lgl, w1, w54_3, q40, q41, q42, q43, q44, Option.toList_some, Option.toList_none, List.cons_append, List.nil_append, xp_S_hasRun, SH_e hs, w72, SH_e hs2, e2, hrY hm2 h2]
  refine bY rfl ?_
  refine PW_blk okS_copyTo 2 rfl SpX_ok ?_
  simp only [wL0, wLc, true_and, w2, lg0, lgi, lgr, lgl, w35, SH_k hs, SH_r hs, SH_a hs, SH_n hs, w1, w56, q40, q41, q42, q43, q44, w71, SH_k hs2, SH_r hs2, SH_a hs2, SH_n hs2, nI_clamp (show p < 2 ^ 31 by omega), nI_clamp (show q < 2 ^ 31 by omega), nI_clamp (show n < 2 ^ 31 by omega)]
  refine ⟨⟨lt0 (by omega), lt0 (by omega), lt0 (by omega)⟩, ⟨by omega, by omega⟩, ?_⟩
  refine PW_blk okS_copyTo 3 rfl SpX_ok ?_
  simp only [wL0, w87]
  exact hk
theorem X_copy {s a t b n : Int32} {W N C : Nat → Int32} (hS : ∀ j, j < 4 → XS σ j W N C) (hSh : ShI W N) (h1 : ¬ (rgI s 0 3 ∧ rgI t 0 3) → K (some (.int (-1000001))) (noX σ 0)) (h2 : ∀ j l, j < 4 → l < 4 → s = nI j → t = nI l → (W j = 0 ∨ W l = 0) → K (some (.int (-1000006))) (noX σ 5)) (h3 : ∀ j l, j < 4 → l < 4 → s = nI j → t = nI l → ¬ (W j = 0 ∨ W l = 0) → ¬ W j = W l → K (some (.int (-1000003))) (noX σ 2)) (h4 : ∀ j l, j < 4 → l < 4 → s = nI j → t = nI l → ¬ (W j = 0 ∨ W l = 0) → W j = W l → (¬ ∃ p q c, a = nI p ∧ b = nI q ∧ n = nI c ∧ p + c ≤ nv N j ∧ q + c ≤ nv N l) → K (some (.int (-1000001))) (noX σ 0)) (h5 : ∀ j l p q c, j < 4 → l < 4 → s = nI j → t = nI l → ¬ (W j = 0 ∨ W l = 0) → W j = W l → a = nI p → b = nI q → n = nI c → p + c ≤ nv N j → q + c ≤ nv N l → ∀ σ', Sf σ σ' → (∀ i, i < 4 → XS σ' i W N (cpC C C (40 * l + q) (40 * j + p) c)) → K (some (.int (nI c))) σ') : Rn 0 ev mX_copy [.ref 0, .int s, .int a, .int t, .int b, .int n] σ K := by
  refine Rn_V (by decide) rc5 rfl rfl ?_
  have no : ¬ (rgI s 0 3 ∧ rgI t 0 3) → PW 0 ev mX_copy 16 [.ref 0, .int s, .int a, .int t, .int b, .int n] [] σ K := by
    intro z
    refine PW_blk okX_copy 2 rfl SpX_ok ?_
    simp only [wL0, wLc, true_and, w2, lg0, lgi, lgr, lgl, w0, w54_2, q40, q41, q42, q43, q44, Option.toList_some, Option.toList_none, List.cons_append, List.nil_append, xp_X_tell, tl0, tl1, tl2, tl3, tl4, tl5, tl6, tq0, tq1, tq2, tq3, tq4, tq5, tq6, w84]
    exact h1 z
  refine PW_blk okX_copy 0 rfl SpX_ok ?_
  simp only [wL0, wLc, true_and, w2, lg0, lgi, lgr, lgl, w1, w54_2, q40, q41, q42, q43, q44, Option.toList_some, Option.toList_none, List.cons_append, List.nil_append, xp_X_isSheet, w72]
  by_cases hr : ∃ n, n < 4 ∧ s = nI n
  rotate_left
  · exact bN (in0N (m := 4) (by decide) hr) (no (fun z => hr (rg_lt.mp z.1)))
  refine bY (in0Y (m := 4) (by decide) hr) ?_
  refine PW_blk okX_copy 1 rfl SpX_ok ?_
  simp only [wL0, wLc, true_and, w2, lg0, lgi, lgr, lgl, w1, w54_2, q40, q41, q42, q43, q44, Option.toList_some, Option.toList_none, List.cons_append, List.nil_append, xp_X_isSheet, w73]
  by_cases hr2 : ∃ n, n < 4 ∧ t = nI n
  rotate_left
  · exact dN (in0N (m := 4) (by decide) hr2) (no (fun z => hr2 (rg_lt.mp z.2)))
  refine dY (in0Y (m := 4) (by decide) hr2) ?_
  obtain ⟨j, hj, rfl⟩ := hr
  obtain ⟨l, hl, rfl⟩ := hr2
  have hs := SHj hj
  have hs2 := SHj hl
  have j1 := (hS j hj).1
  have l1 := (hS l hl).1
  have hNj := (hSh j hj).2
  have hNl := (hSh l hl).2
  have hNj2 := hNj.2
  have hNl2 := hNl.2
  have j2 : σ.1 (54 + 2 * j) 2 = nI (nv N j) := (hS j hj).2.1.trans hNj.1
  have l2 : σ.1 (54 + 2 * l) 2 = nI (nv N l) := (hS l hl).2.1.trans hNl.1
  have miss : (W j = 0 ∨ W l = 0) → PW 0 ev mX_copy 47 [.ref 0, .int (nI j), .int a, .int (nI l), .int b, .int n] [] σ K := by
    intro z
    refine PW_blk okX_copy 5 rfl SpX_ok ?_
    simp only [wL0, wLc, true_and, w2, lg0, lgi, lgr, lgl, w0, w54_2, q40, q41, q42, q43, q44, Option.toList_some, Option.toList_none, List.cons_append, List.nil_append, xp_X_tell, tl0, tl1, tl2, tl3, tl4, tl5, tl6, tq0, tq1, tq2, tq3, tq4, tq5, tq6, w84]
    exact h2 j l hj hl rfl rfl z
  refine PW_blk okX_copy 3 rfl SpX_ok ?_
  simp only [wL0, wLc, true_and, w2, lg0, lgi, lgr, lgl, w35, kX0, rX0_6, kX53, nX53, w1, w42, w54_1, q40, q41, q42, q43, q44, Option.toList_some, Option.toList_none, List.cons_append, List.nil_append, xp_S_isMissing, SH_e hs, w73, v4 hj, c10 (show j < 10 by omega), rfj hj, j1]
  by_cases u1 : W j = 0
  · exact dY1 u1 (miss (Or.inl u1))
  refine dN1 u1 ?_
  refine PW_blk okX_copy 4 rfl SpX_ok ?_
  simp only [wL0, wLc, true_and, w2, lg0, lgi, lgr, lgl, w35, kX0, rX0_6, kX53, nX53, w1, w42, w54_1, q40, q41, q42, q43, q44, Option.toList_some, Option.toList_none, List.cons_append, List.nil_append, xp_S_isMissing, SH_e hs, w72, v4 hl, c10 (show l < 10 by omega), rfj hl, l1, SH_e hs2]
  by_cases u2 : W l = 0
  · exact bY1 u2 (miss (Or.inr u2))
  refine bN1 u2 ?_
  have uu : ¬ (W j = 0 ∨ W l = 0) := fun z => z.elim u1 u2
  refine PW_blk okX_copy 6 rfl SpX_ok ?_
  simp only [wL0, wLc, true_and, w2, lg0, lgi, lgr, lgl, w35, kX0, rX0_6, kX53, nX53, w1, w42, w54_2, q40, q41, q42, q43, q44, Option.toList_some, Option.toList_none, List.cons_append, List.nil_append, xp_S_isLike, SH_e hs, SH_e hs2, w73, v4 hj, c10 (show j < 10 by omega), rfj hj, v4 hl, c10 (show l < 10 by omega), rfj hl, j1, l1]
  by_cases u3 : W j = W l
  rotate_left
  · refine dN1 u3 ?_
    refine PW_blk okX_copy 7 rfl SpX_ok ?_
    simp only [wL0, wLc, true_and, w2, lg0, lgi, lgr, lgl, w0, w54_2, q40, q41, q42, q43, q44, Option.toList_some, Option.toList_none, List.cons_append, List.nil_append, xp_X_tell, tl0, tl1, tl2, tl3, tl4, tl5, tl6, tq0, tq1, tq2, tq3, tq4, tq5, tq6, w84]
    exact h3 j l hj hl rfl rfl uu u3
  refine dY1 u3 ?_
  have bad : (¬ ∃ p q c, a = nI p ∧ b = nI q ∧ n = nI c ∧ p + c ≤ nv N j ∧ q + c ≤ nv N l) → PW 0 ev mX_copy 112 [.ref 0, .int (nI j), .int a, .int (nI l), .int b, .int n] [] σ K := by
    intro z
    refine PW_blk okX_copy 10 rfl SpX_ok ?_
    simp only [wL0, wLc, true_and, w2, lg0, lgi, lgr, lgl, w0, w54_2, q40, q41, q42, q43, q44, Option.toList_some, Option.toList_none, List.cons_append, List.nil_append, xp_X_tell, tl0, tl1, tl2, tl3, tl4, tl5, tl6, tq0, tq1, tq2, tq3, tq4, tq5, tq6, w84]
    exact h4 j l hj hl rfl rfl uu u3 z
  refine PW_blk okX_copy 8 rfl SpX_ok ?_
  simp only [wL0, wLc, true_and, w2, lg0, lgi, lgr, lgl, w35, kX0, rX0_6, kX53, nX53, w1, w42, w54_3, q40, q41, q42, q43, q44, Option.toList_some, Option.toList_none, List.cons_append, List.nil_append, xp_S_hasRun, SH_e hs, w72, v4 hj, c10 (show j < 10 by omega), rfj hj, j2]
  by_cases q1 : ∃ x y, a = nI x ∧ n = nI y ∧ x + y ≤ nv N j
  rotate_left
  · exact bN (hrN hNj2 q1) (bad (fun ⟨p, q, c, ea, eb, ec, g1, g2⟩ => q1 ⟨p, c, ea, ec, g1⟩))
  obtain ⟨p, c, rfl, rfl, hpc⟩ := q1
  refine bY (hrY hNj2 hpc) ?_
  refine PW_blk okX_copy 9 rfl SpX_ok ?_
  simp only [wL0, wLc, true_and, w2, lg0, lgi, lgr, lgl, w35, kX0, rX0_6, kX53, nX53, w1, w42, w54_3, q40, q41, q42, q43, q44, Option.toList_some, Option.toList_none, List.cons_append, List.nil_append, xp_S_hasRun, SH_e hs, w73, v4 hl, c10 (show l < 10 by omega), rfj hl, l2, SH_e hs2]
  by_cases q2 : ∃ x y, b = nI x ∧ nI c = nI y ∧ x + y ≤ nv N l
  rotate_left
  · exact dN (hrN hNl2 q2) (bad (fun ⟨p', q, c', ea, eb, ec, g1, g2⟩ => q2 ⟨q, c', eb, ec, g2⟩))
  obtain ⟨q, c', rfl, ec, hqc⟩ := q2
  rw [nI_eq_iff (by omega) (by omega)] at ec
  subst ec
  refine dY (hrY hNl2 hqc) ?_
  refine PW_blk okX_copy 11 rfl SpX_ok ?_
  simp only [wL0, wLc, true_and, w2, lg0, lgi, lgr, lgl, w35, kX0, rX0_6, kX53, nX53, w1, w42, w54_5, q40, q41, q42, q43, q44, Option.toList_some, Option.toList_none, List.cons_append, List.nil_append, w84, v4 hj, c10 (show j < 10 by omega), rfj hj, v4 hl, c10 (show l < 10 by omega), rfj hl]
  refine X_copyTo hs hs2 j2 l2 hNj2 hNl2 hpc hqc ?_
  simp only [wL0, wLc, true_and, w2, lg0, lgi, lgr, lgl, w35, kX0, rX0_6, kX53, nX53, w1, w42, w54_5, q40, q41, q42, q43, q44, Option.toList_some, Option.toList_none, List.cons_append, List.nil_append, w84]
  refine h5 j l p q c hj hl rfl rfl uu u3 rfl rfl rfl hpc hqc _ (Sf_sr (by omega) Sf_r) (fun i hi => ?_)
  by_cases e : i = l
  · subst e
    refine ⟨?_, ?_, fun x hx => ?_⟩
    · rw [sr1n (by omega)]; exact (hS i hi).1
    · rw [sr1n (by omega)]; exact (hS i hi).2.1
    · rw [sr1]
      unfold cpC
      show (if q ≤ x ∧ x < q + c then σ.1 (54 + 2 * j + 1) (p + (x - q)) else σ.1 (54 + 2 * i + 1) x) = _
      by_cases z : q ≤ x ∧ x < q + c
      · rw [if_pos z, if_pos (by omega), (hS j hj).2.2 _ (by omega)]
        congr 1
        omega
      · rw [if_neg z, if_neg (by omega)]
        exact (hS i hi).2.2 x hx
  · refine XS_other (hS i hi) (by rw [sr1n (by omega)]) (by rw [sr1n (by omega)]) rfl rfl (fun x hx => ?_)
    unfold cpC
    rw [if_neg (by omega)]
theorem X_load {s : Int32} {W N C : Nat → Int32} (hX : XC σ 1 S) (hI : Inv S) (hS : ∀ j, j < 4 → XS σ j W N C) (hSh : ShI W N) (h1 : ¬ rgI s 0 3 → K (some (.int (-1000001))) (noX σ 0)) (h2 : ∀ j, j < 4 → s = nI j → W j = 0 → K (some (.int (-1000006))) (noX σ 5)) (h3 : ∀ j c, j < 4 → s = nI j → ¬ W j = 0 → (∀ i, i < c → okL S N C j i) → ¬ okL S N C j c → ∀ σ', Cf 1 σ σ' → XC σ' 1 (ldS S C j c) → K (some (.int (nI c))) σ') : Rn 0 ev mX_load [.ref 0, .int s] σ K := by
  have hc := CH1
  refine Rn_V (by decide) rc5 rfl rfl ?_
  refine PW_blk okX_load 0 rfl SpX_ok ?_
  simp only [wL0, wLc, true_and, w2, lg0, lgi, lgr, lgl, w1, w54_2, q40, q41, q42, q43, q44, Option.toList_some, Option.toList_none, List.cons_append, List.nil_append, w4, ls00, ls0i, ls0r, ls0l, lsi, lsr, lsl, Option.map_some, w72]
  refine X_sheetFinding hS (fun z => ?_) (fun j hj e z => ?_) (fun j hj e z => ?_)
  · simp only [wL0, wLc, true_and, w2, lg0, lgi, lgr, lgl, w1, w54_2, q40, q41, q42, q43, q44, Option.toList_some, Option.toList_none, List.cons_append, List.nil_append, w4, ls00, ls0i, ls0r, ls0l, lsi, lsr, lsl, Option.map_some, w72]
    refine b2N (by decide) ?_
    refine PW_blk okX_load 1 rfl SpX_ok ?_
    simp only [wL0, wLc, true_and, w2, lg0, lgi, lgr, lgl, w1, w54_2, q40, q41, q42, q43, q44, Option.toList_some, Option.toList_none, List.cons_append, List.nil_append, xp_X_tell, tl0, tl1, tl2, tl3, tl4, tl5, tl6, tq0, tq1, tq2, tq3, tq4, tq5, tq6, w84]
    exact h1 z
  · simp only [wL0, wLc, true_and, w2, lg0, lgi, lgr, lgl, w1, w54_2, q40, q41, q42, q43, q44, Option.toList_some, Option.toList_none, List.cons_append, List.nil_append, w4, ls00, ls0i, ls0r, ls0l, lsi, lsr, lsl, Option.map_some, w72]
    refine b2N (by decide) ?_
    refine PW_blk okX_load 1 rfl SpX_ok ?_
    simp only [wL0, wLc, true_and, w2, lg0, lgi, lgr, lgl, w1, w54_2, q40, q41, q42, q43, q44, Option.toList_some, Option.toList_none, List.cons_append, List.nil_append, xp_X_tell, tl0, tl1, tl2, tl3, tl4, tl5, tl6, tq0, tq1, tq2, tq3, tq4, tq5, tq6, w84]
    exact h2 j hj e z
  · subst e
    simp only [wL0, wLc, true_and, w2, lg0, lgi, lgr, lgl, w1, w54_2, q40, q41, q42, q43, q44, Option.toList_some, Option.toList_none, List.cons_append, List.nil_append, w4, ls00, ls0i, ls0r, ls0l, lsi, lsr, lsl, Option.map_some, w72]
    refine b2Y trivial ?_
    have hN := (hSh j hj).2
    have hN2 := hN.2
    have e2 : σ.1 (54 + 2 * j) 2 = nI (nv N j) := (hS j hj).2.1.trans hN.1
    refine PW_blk okX_load 2 rfl SpX_ok ?_
    simp only [wL0, wLc, true_and, w2, lg0, lgi, lgr, lgl, w35, kX0, rX0_0, rX0_6, kX53, nX53, w1, w42, w54_2, q40, q41, q42, q43, q44, Option.toList_some, Option.toList_none, List.cons_append, List.nil_append, w84, v4 hj, c10 (show j < 10 by omega), rfj hj]
    refine X_loadTimes hc (SHj hj) hX hI e2 hN2 rfl (fun q hq => (hS j hj).2.2 q (by omega)) (fun q g1 g2 σ' hC hX' => ?_)
    simp only [wL0, wLc, true_and, w2, lg0, lgi, lgr, lgl, w35, kX0, rX0_0, rX0_6, kX53, nX53, w1, w42, w54_2, q40, q41, q42, q43, q44, Option.toList_some, Option.toList_none, List.cons_append, List.nil_append, w84]
    exact h3 j q hj rfl z g1 g2 σ' hC hX'
theorem X_judge {s : Int32} {W N C : Nat → Int32} (hX : XC σ 1 S) (hI : Inv S) (hS : ∀ j, j < 4 → XS σ j W N C) (hSh : ShI W N) (h1 : ¬ rgI s 0 3 → K (some (.int (-1000001))) (noX σ 0)) (h2 : ∀ j, j < 4 → s = nI j → W j = 0 → K (some (.int (-1000006))) (noX σ 5)) (h3 : ∀ j c, j < 4 → s = nI j → ¬ W j = 0 → (∀ i, i < c → okJ S N C j i) → ¬ okJ S N C j c → K (some (.int (if c = nv N j then 0 else nI (1 + c)))) σ) : Rn 0 ev mX_judge [.ref 0, .int s] σ K := by
  have hc := CH1
  refine Rn_V (by decide) rc5 rfl rfl ?_
  refine PW_blk okX_judge 0 rfl SpX_ok ?_
  simp only [wL0, wLc, true_and, w2, lg0, lgi, lgr, lgl, w1, w54_2, q40, q41, q42, q43, q44, Option.toList_some, Option.toList_none, List.cons_append, List.nil_append, w4, ls00, ls0i, ls0r, ls0l, lsi, lsr, lsl, Option.map_some, w72]
  refine X_sheetFinding hS (fun z => ?_) (fun j hj e z => ?_) (fun j hj e z => ?_)
  · simp only [wL0, wLc, true_and, w2, lg0, lgi, lgr, lgl, w1, w54_2, q40, q41, q42, q43, q44, Option.toList_some, Option.toList_none, List.cons_append, List.nil_append, w4, ls00, ls0i, ls0r, ls0l, lsi, lsr, lsl, Option.map_some, w72]
    refine b2N (by decide) ?_
    refine PW_blk okX_judge 1 rfl SpX_ok ?_
    simp only [wL0, wLc, true_and, w2, lg0, lgi, lgr, lgl, w1, w54_2, q40, q41, q42, q43, q44, Option.toList_some, Option.toList_none, List.cons_append, List.nil_append, xp_X_tell, tl0, tl1, tl2, tl3, tl4, tl5, tl6, tq0, tq1, tq2, tq3, tq4, tq5, tq6, w84]
    exact h1 z
  · simp only [wL0, wLc, true_and, w2, lg0, lgi, lgr, lgl, w1, w54_2, q40, q41, q42, q43, q44, Option.toList_some, Option.toList_none, List.cons_append, List.nil_append, w4, ls00, ls0i, ls0r, ls0l, lsi, lsr, lsl, Option.map_some, w72]
    refine b2N (by decide) ?_
    refine PW_blk okX_judge 1 rfl SpX_ok ?_
    simp only [wL0, wLc, true_and, w2, lg0, lgi, lgr, lgl, w1, w54_2, q40, q41, q42, q43, q44, Option.toList_some, Option.toList_none, List.cons_append, List.nil_append, xp_X_tell, tl0, tl1, tl2, tl3, tl4, tl5, tl6, tq0, tq1, tq2, tq3, tq4, tq5, tq6, w84]
    exact h2 j hj e z
  · subst e
    simp only [wL0, wLc, true_and, w2, lg0, lgi, lgr, lgl, w1, w54_2, q40, q41, q42, q43, q44, Option.toList_some, Option.toList_none, List.cons_append, List.nil_append, w4, ls00, ls0i, ls0r, ls0l, lsi, lsr, lsl, Option.map_some, w72]
    refine b2Y trivial ?_
    have hN := (hSh j hj).2
    have hN2 := hN.2
    have e2 : σ.1 (54 + 2 * j) 2 = nI (nv N j) := (hS j hj).2.1.trans hN.1
    refine PW_blk okX_judge 2 rfl SpX_ok ?_
    simp only [wL0, wLc, true_and, w2, lg0, lgi, lgr, lgl, w35, kX0, rX0_0, rX0_6, kX53, nX53, w1, w42, w54_2, q40, q41, q42, q43, q44, Option.toList_some, Option.toList_none, List.cons_append, List.nil_append, w84, v4 hj, c10 (show j < 10 by omega), rfj hj]
    refine X_firstBarred hc (SHj hj) hX hI e2 hN2 rfl (fun q hq => (hS j hj).2.2 q (by omega)) (fun q g1 g2 => ?_)
    simp only [wL0, wLc, true_and, w2, lg0, lgi, lgr, lgl, w35, kX0, rX0_0, rX0_6, kX53, nX53, w1, w42, w54_2, q40, q41, q42, q43, q44, Option.toList_some, Option.toList_none, List.cons_append, List.nil_append, w84]
    exact h3 j q hj rfl z g1 g2
theorem X_image (hX : XC σ 1 S) (hn10 : nv S 3 ≤ 10) (hk : ∀ σ', (∀ i, i ≠ 0 → ¬ (15 ≤ i ∧ i ≤ 28) → σ'.1 i = σ.1 i) → σ'.1 0 8 = 1 → XC σ' 15 S → K (some (.int 1)) σ') : Rn 0 ev mX_image [.ref 0] σ K := by
  refine Rn_V (by decide) rc5 rfl rfl ?_
  refine PW_blk okX_image 0 rfl SpX_ok ?_
  simp only [wL0, wLc, true_and, w2, lg0, lgi, lgr, lgl, w35, kX0, rX0_1, rX0_0, w54_2, q40, q41, q42, q43, q44, Option.toList_some, Option.toList_none, List.cons_append, List.nil_append, w0, w37, w84]
  refine X_become CH15 CH1 (by decide) hX hn10 (fun σ' hC hX' => ?_)
  simp only [wL0, wLc, true_and, w2, lg0, lgi, lgr, lgl, w35, kX0, rX0_1, rX0_0, w54_2, q40, q41, q42, q43, q44, Option.toList_some, Option.toList_none, List.cons_append, List.nil_append, w0, w37, w84, si_is]
  refine ⟨Or.inr trivial, hk _ (fun i h0 h1 => ?_) ?_ (XC_cong (fun i h1 h2 => sr1n (by omega)) hX')⟩
  · rw [sr1n h0]; exact hC i (by omega)
  · rw [sr1, updS]
theorem X_undo {S2 : Nat → Int32} (hn10 : nv S2 3 ≤ 10) (h1 : σ.1 0 8 = 0 → K (some (.int (-1000004))) (noX σ 3)) (hX2 : ¬ σ.1 0 8 = 0 → XC σ 15 S2) (h2 : ¬ σ.1 0 8 = 0 → ∀ σ', Cf 1 σ σ' → XC σ' 1 S2 → K (some (.int (S2 0))) σ') : Rn 0 ev mX_undo [.ref 0] σ K := by
  have hc := CH1
  refine Rn_V (by decide) rc5 rfl rfl ?_
  refine PW_blk okX_undo 0 rfl SpX_ok ?_
  simp only [wL0, wLc, true_and, w2, lg0, lgi, lgr, lgl, w33, kX0, w73]
  by_cases h : σ.1 0 8 = 0
  · refine b3Y h ?_
    refine PW_blk okX_undo 1 rfl SpX_ok ?_
    simp only [wL0, wLc, true_and, w2, lg0, lgi, lgr, lgl, w0, w54_2, q40, q41, q42, q43, q44, Option.toList_some, Option.toList_none, List.cons_append, List.nil_append, xp_X_tell, tl0, tl1, tl2, tl3, tl4, tl5, tl6, tq0, tq1, tq2, tq3, tq4, tq5, tq6, w84]
    exact h1 h
  refine b3N h ?_
  refine PW_blk okX_undo 2 rfl SpX_ok ?_
  simp only [wL0, wLc, true_and, w2, lg0, lgi, lgr, lgl, w35, kX0, rX0_0, rX0_1, w54_2, q40, q41, q42, q43, q44, Option.toList_some, Option.toList_none, List.cons_append, List.nil_append, w33, CH_k hc, w84]
  refine X_become CH1 CH15 (by decide) (hX2 h) hn10 (fun σ' hC hX' => ?_)
  simp only [wL0, wLc, true_and, w2, lg0, lgi, lgr, lgl, w35, kX0, rX0_0, rX0_1, w54_2, q40, q41, q42, q43, q44, Option.toList_some, Option.toList_none, List.cons_append, List.nil_append, w33, CH_k hc, w84, hX'.1.2.2.1]
  exact h2 h σ' hC hX'
theorem X_tear (hk : ∀ σ', (∀ i, i ≠ 0 → σ'.1 i = σ.1 i) → σ'.1 0 8 = 0 → K (some (.int (if σ.1 0 8 = 0 then 0 else 1))) σ') : Rn 0 ev mX_tear [.ref 0] σ K := by
  refine Rn_V (by decide) rc5 rfl rfl ?_
  have fin : ∀ x : Int32, x = (if σ.1 0 8 = 0 then 0 else 1) → PW 0 ev mX_tear 12 [.ref 0] [.int x] σ K := by
    intro x hx
    subst hx
    refine PW_blk okX_tear 3 rfl SpX_ok ?_
    simp only [wL0, wLc, true_and, w4, ls00, ls0i, ls0r, ls0l, lsi, lsr, lsl, Option.map_some, w2, lg0, lgi, lgr, lgl, w0, w37, kX0, w1, w84, si_is]
    exact ⟨Or.inl trivial, hk _ (fun i h0 => sr1n h0) (by rw [sr1, updS])⟩
  refine PW_blk okX_tear 0 rfl SpX_ok ?_
  simp only [wL0, wLc, true_and, w2, lg0, lgi, lgr, lgl, w33, kX0, w72]
  by_cases h : σ.1 0 8 = 0
  · refine b2Y h ?_
    refine PW_blk okX_tear 2 rfl SpX_ok ?_
    simp only [wL0, wLc, true_and, w0, w71]
    exact fin 0 (by rw [if_pos h])
  · refine b2N h ?_
    refine PW_blk okX_tear 1 rfl SpX_ok ?_
    simp only [wL0, wLc, true_and, w0, w70]
    exact fin 1 (by rw [if_neg h])
theorem X_count {v : Int32} {T : Nat → Int32} {τ : Nat} (hX : XC σ 1 S) (hI : Inv S) (hT : XT σ T τ) (h1 : ¬ rgI v 0 7 → K (some (.int (-1000001))) (noX σ 0)) (h2 : ∀ w, w ≤ 7 → v = nI w → K (some (.int (cntF S (nI τ) w))) σ) : Rn 0 ev mX_count [.ref 0, .int v] σ K := by
  have hc := CH1
  have hlt : nv S 2 < 1024 := by have := hI.2.1.1.2; omega
  refine Rn_V (by decide) rc5 rfl rfl ?_
  refine PW_blk okX_count 0 rfl SpX_ok ?_
  simp only [wL0, wLc, true_and, w1, lg0, lgi, lgr, lgl, w90, wS0, wSc]
  by_cases hw : rgI v 0 7
  rotate_left
  · have hw' := h1 hw
    refine ⟨fun h => absurd ⟨0, by decide, by decide, h⟩ hw, fun _ => ?_⟩
    refine ⟨fun h => absurd ⟨1, by decide, by decide, h⟩ hw, fun _ => ?_⟩
    refine ⟨fun h => absurd ⟨2, by decide, by decide, h⟩ hw, fun _ => ?_⟩
    refine ⟨fun h => absurd ⟨3, by decide, by decide, h⟩ hw, fun _ => ?_⟩
    refine ⟨fun h => absurd ⟨4, by decide, by decide, h⟩ hw, fun _ => ?_⟩
    refine ⟨fun h => absurd ⟨5, by decide, by decide, h⟩ hw, fun _ => ?_⟩
    refine ⟨fun h => absurd ⟨6, by decide, by decide, h⟩ hw, fun _ => ?_⟩
    refine ⟨fun h => absurd ⟨7, by decide, by decide, h⟩ hw, fun _ => ?_⟩
    refine PW_blk okX_count 9 rfl SpX_ok ?_
    simp only [wL0, wLc, true_and, w2, lg0, lgi, lgr, lgl, w0, w54_2, q40, q41, q42, q43, q44, Option.toList_some, Option.toList_none, List.cons_append, List.nil_append, xp_X_tell, tl0, tl1, tl2, tl3, tl4, tl5, tl6, tq0, tq1, tq2, tq3, tq4, tq5, tq6, w84]
    exact hw'
  obtain ⟨w, -, hw, rfl⟩ := hw
  have hkk := h2 w hw rfl
  rcases (show w = 0 ∨ w = 1 ∨ w = 2 ∨ w = 3 ∨ w = 4 ∨ w = 5 ∨ w = 6 ∨ w = 7 by omega) with rfl | rfl | rfl | rfl | rfl | rfl | rfl | rfl
  · refine ⟨fun _ => ?_, fun h => absurd rfl h⟩
    refine PW_blk okX_count 1 rfl SpX_ok ?_
    simp only [wL0, wLc, true_and, w2, lg0, lgi, lgr, lgl, w35, kX0, rX0_0, w33, CH_k hc, w84, hX.1.2.2.1]
    exact hkk
  · refine ⟨fun h => absurd h (by decide), fun _ => ?_⟩
    refine ⟨fun _ => ?_, fun h => absurd rfl h⟩
    refine PW_blk okX_count 2 rfl SpX_ok ?_
    simp only [wL0, wLc, true_and, w2, lg0, lgi, lgr, lgl, w35, kX0, rX0_0, w33, CH_k hc, w84, hX.1.1]
    exact hkk
  · refine ⟨fun h => absurd h (by decide), fun _ => ?_⟩
    refine ⟨fun h => absurd h (by decide), fun _ => ?_⟩
    refine ⟨fun _ => ?_, fun h => absurd rfl h⟩
    refine PW_blk okX_count 3 rfl SpX_ok ?_
    simp only [wL0, wLc, true_and, w2, lg0, lgi, lgr, lgl, w35, kX0, rX0_0, w33, CH_k hc, w55_1, q40, q41, q42, q43, q44, Option.toList_some, Option.toList_none, List.cons_append, List.nil_append, xp_JI_bitCount, w84, x4 hX hI, bcF_n _ hlt]
    exact hkk
  · refine ⟨fun h => absurd h (by decide), fun _ => ?_⟩
    refine ⟨fun h => absurd h (by decide), fun _ => ?_⟩
    refine ⟨fun h => absurd h (by decide), fun _ => ?_⟩
    refine ⟨fun _ => ?_, fun h => absurd rfl h⟩
    refine PW_blk okX_count 4 rfl SpX_ok ?_
    simp only [wL0, wLc, true_and, w2, lg0, lgi, lgr, lgl, w35, kX0, rX0_0, w33, CH_k hc, w84, hX.1.2.2.2.1]
    exact hkk
  · refine ⟨fun h => absurd h (by decide), fun _ => ?_⟩
    refine ⟨fun h => absurd h (by decide), fun _ => ?_⟩
    refine ⟨fun h => absurd h (by decide), fun _ => ?_⟩
    refine ⟨fun h => absurd h (by decide), fun _ => ?_⟩
    refine ⟨fun _ => ?_, fun h => absurd rfl h⟩
    refine PW_blk okX_count 5 rfl SpX_ok ?_
    simp only [wL0, wLc, true_and, w2, lg0, lgi, lgr, lgl, w35, kX0, rX0_0, w54_1, q40, q41, q42, q43, q44, Option.toList_some, Option.toList_none, List.cons_append, List.nil_append, w84]
    refine X_allTimes hc hX hI ?_
    simp only [wL0, wLc, true_and, w2, lg0, lgi, lgr, lgl, w35, kX0, rX0_0, w54_1, q40, q41, q42, q43, q44, Option.toList_some, Option.toList_none, List.cons_append, List.nil_append, w84]
    exact hkk
  · refine ⟨fun h => absurd h (by decide), fun _ => ?_⟩
    refine ⟨fun h => absurd h (by decide), fun _ => ?_⟩
    refine ⟨fun h => absurd h (by decide), fun _ => ?_⟩
    refine ⟨fun h => absurd h (by decide), fun _ => ?_⟩
    refine ⟨fun h => absurd h (by decide), fun _ => ?_⟩
    refine ⟨fun _ => ?_, fun h => absurd rfl h⟩
    refine PW_blk okX_count 6 rfl SpX_ok ?_
    simp only [wL0, wLc, true_and, w2, lg0, lgi, lgr, lgl, w35, kX0, rX0_5, w54_1, q40, q41, q42, q43, q44, Option.toList_some, Option.toList_none, List.cons_append, List.nil_append, xp_T_size, w84, hT.1]
    exact hkk
  · refine ⟨fun h => absurd h (by decide), fun _ => ?_⟩
    refine ⟨fun h => absurd h (by decide), fun _ => ?_⟩
    refine ⟨fun h => absurd h (by decide), fun _ => ?_⟩
    refine ⟨fun h => absurd h (by decide), fun _ => ?_⟩
    refine ⟨fun h => absurd h (by decide), fun _ => ?_⟩
    refine ⟨fun h => absurd h (by decide), fun _ => ?_⟩
    refine ⟨fun _ => ?_, fun h => absurd rfl h⟩
    refine PW_blk okX_count 7 rfl SpX_ok ?_
    simp only [wL0, wLc, true_and, w2, lg0, lgi, lgr, lgl, w35, kX0, rX0_0, w33, CH_k hc, w84, hX.1.2.2.2.2]
    exact hkk
  · refine ⟨fun h => absurd h (by decide), fun _ => ?_⟩
    refine ⟨fun h => absurd h (by decide), fun _ => ?_⟩
    refine ⟨fun h => absurd h (by decide), fun _ => ?_⟩
    refine ⟨fun h => absurd h (by decide), fun _ => ?_⟩
    refine ⟨fun h => absurd h (by decide), fun _ => ?_⟩
    refine ⟨fun h => absurd h (by decide), fun _ => ?_⟩
    refine ⟨fun h => absurd h (by decide), fun _ => ?_⟩
    refine ⟨fun _ => ?_, fun h => absurd rfl h⟩
    refine PW_blk okX_count 8 rfl SpX_ok ?_
    simp only [wL0, wLc, true_and, w2, lg0, lgi, lgr, lgl, w35, kX0, rX0_0, w54_1, q40, q41, q42, q43, q44, Option.toList_some, Option.toList_none, List.cons_append, List.nil_append, w84]
    refine X_heldSpots hc hX hI ?_
    simp only [wL0, wLc, true_and, w2, lg0, lgi, lgr, lgl, w35, kX0, rX0_0, w54_1, q40, q41, q42, q43, q44, Option.toList_some, Option.toList_none, List.cons_append, List.nil_append, w84]
    exact hkk
theorem X_status {v : Int32} {F : Nat → Int32} (hF : ∀ w, w < 7 → σ.1 62 w = F w) (h1 : ¬ (v = -1 ∨ rgI v 0 6) → K (some (.int (-1000001))) (noX σ 0)) (h2 : v = -1 → K (some (.int (fsU F 7))) σ) (h3 : ∀ w, w ≤ 6 → v = nI w → K (some (.int (F w))) σ) : Rn 0 ev mX_status [.ref 0, .int v] σ K := by
  have v7 : ∀ w, w < 7 → vp_in (nI w) 7 = True := fun w h => eq_true (vp_in_nI h (by decide))
  refine Rn_V (by decide) rc5 rfl rfl ?_
  have no : ¬ (v = -1 ∨ rgI v 0 6) → PW 0 ev mX_status 11 [.ref 0, .int v] [] σ K := by
    intro z
    refine PW_blk okX_status 2 rfl SpX_ok ?_
    simp only [wL0, wLc, true_and, w2, lg0, lgi, lgr, lgl, w0, w54_2, q40, q41, q42, q43, q44, Option.toList_some, Option.toList_none, List.cons_append, List.nil_append, xp_X_tell, tl0, tl1, tl2, tl3, tl4, tl5, tl6, tq0, tq1, tq2, tq3, tq4, tq5, tq6, w84]
    exact h1 z
  refine PW_blk okX_status 0 rfl SpX_ok ?_
  simp only [wL0, wLc, true_and, w1, lg0, lgi, lgr, lgl, w0, w80]
  by_cases c1 : v < -1
  · refine b2Y c1 (no (fun z => ?_))
    rcases z with z | ⟨n, _, b, e⟩
    · rw [z] at c1; exact absurd c1 (by decide)
    · rw [e, fa_lt, nI_toInt (by omega), show (-1 : Int32).toInt = -1 from by decide] at c1
      omega
  refine b2N c1 ?_
  refine PW_blk okX_status 1 rfl SpX_ok ?_
  simp only [wL0, wLc, true_and, w1, lg0, lgi, lgr, lgl, w0, w80]
  by_cases c2 : v < 7
  rotate_left
  · refine b2N c2 (no (fun z => ?_))
    rcases z with z | ⟨n, _, b, e⟩
    · rw [z] at c2; exact absurd (by decide) c2
    · rw [e] at c2; exact c2 (nI_lt (b := 7) (by omega) (by decide))
  refine b2Y c2 ?_
  refine PW_blk okX_status 3 rfl SpX_ok ?_
  simp only [wL0, wLc, true_and, w1, lg0, lgi, lgr, lgl, w74]
  by_cases c3 : v < 0
  · have e : v = -1 := by
      rw [fa_eq]
      rw [fa_lt, show (-1 : Int32).toInt = -1 from by decide] at c1
      rw [fa_lt, show (0 : Int32).toInt = 0 from by decide] at c3
      rw [show (-1 : Int32).toInt = -1 from by decide]
      omega
    refine b2Y c3 ?_
    refine PW_blk okX_status 5 rfl SpX_ok ?_
    simp only [wL0, wLc, true_and, w0, w4, ls00, ls0i, ls0r, ls0l, lsi, lsr, lsl, Option.map_some, w71]
    have key := lp_up (n := 7) (P := fun k => PW 0 ev mX_status 33 [.ref 0, .int v, .int (fsU F k), .int (nI k)] [] σ K) ?_ ?_ 0 (by decide)
    · exact key
    · refine PW_blk okX_status 6 rfl SpX_ok ?_
      simp only [wL0, wLc, true_and, w1, lg0, lgi, lgr, lgl, w0, w81]
      refine b3N (by decide) ?_
      refine PW_blk okX_status 8 rfl SpX_ok ?_
      simp only [wL0, wLc, true_and, w1, lg0, lgi, lgr, lgl, w84]
      exact h2 e
    · intro k hk7 ih
      refine PW_blk okX_status 6 rfl SpX_ok ?_
      simp only [wL0, wLc, true_and, w1, lg0, lgi, lgr, lgl, w0, w81]
      refine b3Y (nI_lt hk7 (by decide)) ?_
      refine PW_blk okX_status 7 rfl SpX_ok ?_
      simp only [wL0, wLc, true_and, w1, lg0, lgi, lgr, lgl, w2, w35, kX0, rX0_7, kX62, nX62, w39, w11, w4, ls00, ls0i, ls0r, ls0l, lsi, lsr, lsl, Option.map_some, w7, w70, v7 k hk7, c10 (show k < 10 by omega), hF k hk7]
      rw [show (1 : Int32) = nI 1 from rfl, nI_add]
      exact ih
  · refine b2N c3 ?_
    obtain ⟨w, hw, rfl⟩ := ge0 c3
    rw [show (7 : Int32) = nI 7 from rfl, nI_lt_iff hw (by decide)] at c2
    refine PW_blk okX_status 4 rfl SpX_ok ?_
    simp only [wL0, wLc, true_and, w2, lg0, lgi, lgr, lgl, w35, kX0, rX0_7, kX62, nX62, w1, w39, w84, v7 w c2, c10 (show w < 10 by omega), hF w c2]
    exact h3 w (by omega) rfl
end QX
