/-! the reference: slack, hands, why, times, sounds, what may come off -/
theorem ixn (k f : Nat) : ixF (nI k) (nI f) = nI (tr k f) := by
  unfold ixF tr
  rw [show (10 : Int32) = nI 10 from rfl, pk_mul, nI_add, nI_add]
theorem gv_n {k f : Nat} (h : k < 10) (hf : f < 10) : vp_in (ixF (nI k) (nI f)) 120 = True := by
  rw [ixn]
  exact eq_true (vp_in_nI (by unfold tr; omega) (by decide))
theorem gt_n {k f : Nat} (h : k < 10) (hf : f < 10) : (ixF (nI k) (nI f)).toNatClampNeg = tr k f := by
  rw [ixn]
  exact nI_clamp (by unfold tr; omega)
theorem gv0 {k : Nat} (h : k < 10) : vp_in (ixF (nI k) 0) 120 = True := gv_n (f := 0) h (by decide)
theorem gt0 {k : Nat} (h : k < 10) : (ixF (nI k) 0).toNatClampNeg = tr k 0 := gt_n (f := 0) h (by decide)
theorem gv1 {k : Nat} (h : k < 10) : vp_in (ixF (nI k) 1) 120 = True := gv_n (f := 1) h (by decide)
theorem gt1 {k : Nat} (h : k < 10) : (ixF (nI k) 1).toNatClampNeg = tr k 1 := gt_n (f := 1) h (by decide)
theorem gv2 {k : Nat} (h : k < 10) : vp_in (ixF (nI k) 2) 120 = True := gv_n (f := 2) h (by decide)
theorem gt2 {k : Nat} (h : k < 10) : (ixF (nI k) 2).toNatClampNeg = tr k 2 := gt_n (f := 2) h (by decide)
theorem gv3 {k : Nat} (h : k < 10) : vp_in (ixF (nI k) 3) 120 = True := gv_n (f := 3) h (by decide)
theorem gt3 {k : Nat} (h : k < 10) : (ixF (nI k) 3).toNatClampNeg = tr k 3 := gt_n (f := 3) h (by decide)
theorem gv4 {k : Nat} (h : k < 10) : vp_in (ixF (nI k) 4) 120 = True := gv_n (f := 4) h (by decide)
theorem gt4 {k : Nat} (h : k < 10) : (ixF (nI k) 4).toNatClampNeg = tr k 4 := gt_n (f := 4) h (by decide)
theorem gv5 {k : Nat} (h : k < 10) : vp_in (ixF (nI k) 5) 120 = True := gv_n (f := 5) h (by decide)
theorem gt5 {k : Nat} (h : k < 10) : (ixF (nI k) 5).toNatClampNeg = tr k 5 := gt_n (f := 5) h (by decide)
theorem gv6 {k : Nat} (h : k < 10) : vp_in (ixF (nI k) 6) 120 = True := gv_n (f := 6) h (by decide)
theorem gt6 {k : Nat} (h : k < 10) : (ixF (nI k) 6).toNatClampNeg = tr k 6 := gt_n (f := 6) h (by decide)
theorem gv7 {k : Nat} (h : k < 10) : vp_in (ixF (nI k) 7) 120 = True := gv_n (f := 7) h (by decide)
theorem gt7 {k : Nat} (h : k < 10) : (ixF (nI k) 7).toNatClampNeg = tr k 7 := gt_n (f := 7) h (by decide)
theorem gv8 {k : Nat} (h : k < 10) : vp_in (ixF (nI k) 8) 120 = True := gv_n (f := 8) h (by decide)
theorem gt8 {k : Nat} (h : k < 10) : (ixF (nI k) 8).toNatClampNeg = tr k 8 := gt_n (f := 8) h (by decide)
theorem gv9 {k : Nat} (h : k < 10) : vp_in (ixF (nI k) 9) 120 = True := gv_n (f := 9) h (by decide)
theorem gt9 {k : Nat} (h : k < 10) : (ixF (nI k) 9).toNatClampNeg = tr k 9 := gt_n (f := 9) h (by decide)
theorem nI_lt_iff {a b : Nat} (ha : a < 2147483648) (hb : b < 2147483648) : nI a < nI b ↔ a < b := nI_ltI ha hb
theorem nI_eq_iff {a b : Nat} (ha : a < 2147483648) (hb : b < 2147483648) : nI a = nI b ↔ a = b := nI_eq ha hb
theorem nI_z {a : Nat} (ha : a < 2147483648) : nI a = 0 ↔ a = 0 := nI_eq (b := 0) ha (by decide)
theorem if01 {c : Prop} [Decidable c] : ((if c then (1 : Int32) else 0) = 0) ↔ ¬ c := by by_cases h : c <;> simp [h]
theorem if10 {c : Prop} [Decidable c] : ((if c then (1 : Int32) else 0) = 1) ↔ c := by by_cases h : c <;> simp [h]
section MA
variable {ev : EV} {σ : St2} {K : PO}
theorem R_bits {a : Nat} (ha : a < 1024) (hk : K (some (.int (nI (pcn a)))) σ) : Rn 1 ev mM_bits [.int (nI a)] σ K := by
  refine Rn_S (by decide) rfl rfl rfl ?_
  refine PW_blk okM_bits 0 rfl SpM_ok ?_
  simp only [wL0, wLc, true_and, w0, w4, ls00, ls0i, ls0r, ls0l, lsi, lsr, lsl, Option.map_some, w1, lg0, lgi, lgr, lgl, w71]
  have key : ∀ (m l n : Nat), l ≤ m → l < 1024 → n + pcn l = pcn a → PW 1 ev mM_bits 4 [.int (nI a), .int (nI n), .int (nI l)] [] σ K := by
    intro m
    induction m with
    | zero =>
      intro l n h1 h2 h3
      have e : l = 0 := by omega
      subst e
      rw [pcn_0] at h3
      have e2 : n = pcn a := by omega
      subst e2
      refine PW_blk okM_bits 1 rfl SpM_ok ?_
      simp only [wL0, wLc, true_and, w1, lg0, lgi, lgr, lgl, w72]
      refine ⟨fun _ => ?_, fun h => absurd rfl h⟩
      refine PW_blk okM_bits 3 rfl SpM_ok ?_
      simp only [wL0, wLc, true_and, w1, lg0, lgi, lgr, lgl, w84]
      exact hk
    | succ m ih =>
      intro l n h1 h2 h3
      refine PW_blk okM_bits 1 rfl SpM_ok ?_
      simp only [wL0, wLc, true_and, w1, lg0, lgi, lgr, lgl, w72]
      refine ⟨fun h => ?_, fun h => ?_⟩
      · rw [nI_z (by omega)] at h
        subst h
        rw [pcn_0] at h3
        have e2 : n = pcn a := by omega
        subst e2
        refine PW_blk okM_bits 3 rfl SpM_ok ?_
        simp only [wL0, wLc, true_and, w1, lg0, lgi, lgr, lgl, w84]
        exact hk
      · rw [nI_z (by omega)] at h
        obtain ⟨q1, q2⟩ := pcn_drop l h2 (by omega)
        refine PW_blk okM_bits 2 rfl SpM_ok ?_
        simp only [wL0, wLc, true_and, w7, lg0, lgi, lgr, lgl, ls00, ls0i, ls0r, ls0l, lsi, lsr, lsl, Option.map_some, w1, w0, w12, w16, w4, w70]
        rw [show (1 : Int32) = nI 1 from rfl, nI_add, pk_sub (by omega), fa_and]
        have hle : l &&& (l - 1) ≤ l - 1 := Nat.and_le_right
        exact ih _ _ (by omega) q2 (by omega)
  exact key a a 0 (Nat.le_refl _) ha (by omega)
theorem R_slackBy {o : Nat} (hI : Inv (σ.1 1)) (ho : o < 1024) (hk : K (some (.int (nI (slackN (σ.1 1) o)))) σ) : Rn 1 ev mM_slackBy [.ref 0, .int (nI o)] σ K := by
  have hn := hI.1
  have hn10 := hn.2
  refine Rn_V (by decide) rc6 rfl rfl ?_
  refine PW_blk okM_slackBy 0 rfl SpM_ok ?_
  simp only [wL0, wLc, true_and, w2, lg0, lgi, lgr, lgl, w35, kM0, rM0, kM1, nM1, w0, w39, w4, ls00, ls0i, ls0r, ls0l, lsi, lsr, lsl, Option.map_some, tn0, vi0_120, tn5, vi5_120, w71, hI.2.2.2.2.1.1]
  have key : ∀ (m k : Nat), k + m = nv (σ.1 1) 3 → PW 1 ev mM_slackBy 9 [.ref 0, .int (nI o), .int (nI (slU (σ.1 1) o k)), .int (nI k)] [] σ K := by
    intro m
    induction m with
    | zero =>
      intro k hkm
      have e : k = nv (σ.1 1) 3 := by omega
      subst e
      refine PW_blk okM_slackBy 1 rfl SpM_ok ?_
      simp only [wL0, wLc, true_and, w1, lg0, lgi, lgr, lgl, w2, w35, kM0, rM0, kM1, nM1, w0, w39, tn3, vi3_120, w81, hn.1]
      refine ⟨fun _ => ?_, fun h => absurd h (nI_nlt (Nat.le_refl _) (by omega))⟩
      refine PW_blk okM_slackBy 6 rfl SpM_ok ?_
      simp only [wL0, wLc, true_and, w1, lg0, lgi, lgr, lgl, w84]
      exact hk
    | succ m ih =>
      intro k hkm
      have hkn : k < nv (σ.1 1) 3 := by omega
      have hk10 : k < 10 := by omega
      have hK := hI.2.2.2.2.2.2.2.2.1 k hkn
      refine PW_blk okM_slackBy 1 rfl SpM_ok ?_
      simp only [wL0, wLc, true_and, w1, lg0, lgi, lgr, lgl, w2, w35, kM0, rM0, kM1, nM1, w0, w39, tn3, vi3_120, w81, hn.1]
      refine ⟨fun h => absurd (nI_lt hkn (by omega)) h, fun _ => ?_⟩
      refine PW_blk okM_slackBy 2 rfl SpM_ok ?_
      simp only [wL0, wLc, true_and, w1, lg0, lgi, lgr, lgl, w55_2, q40, q41, q42, q43, q44, Option.toList_some, Option.toList_none, List.cons_append, List.nil_append, sp_isIn, w72]
      have e1 : slU (σ.1 1) o (k + 1) = slU (σ.1 1) o k + (if o.testBit k then nv (σ.1 1) (tr k 2) else 0) := rfl
      have hi := ih (k + 1) (by omega)
      rw [e1] at hi
      rw [isInF_n (by omega) (by omega)]
      refine ⟨fun h => ?_, fun h => ?_⟩
      · rw [if01] at h
        rw [if_neg h] at hi
        refine PW_blk okM_slackBy 4 rfl SpM_ok ?_
        simp only [wL0, wLc, true_and, w0, w71]
        refine PW_blk okM_slackBy 5 rfl SpM_ok ?_
        simp only [wL0, wLc, true_and, w11, w4, ls00, ls0i, ls0r, ls0l, lsi, lsr, lsl, Option.map_some, w7, lg0, lgi, lgr, lgl, w70]
        rw [show (0 : Int32) = nI 0 from rfl, show (1 : Int32) = nI 1 from rfl, nI_add, nI_add]
        exact hi
      · rw [if01] at h
        rw [if_pos (Decidable.not_not.mp h)] at hi
        refine PW_blk okM_slackBy 3 rfl SpM_ok ?_
        simp only [wL0, wLc, true_and, w2, lg0, lgi, lgr, lgl, w1, w0, w54_3, q40, q41, q42, q43, q44, Option.toList_some, Option.toList_none, List.cons_append, List.nil_append, sp_get, w70, gv2 hk10, gt2 hk10, hK.2.2.1.1]
        refine PW_blk okM_slackBy 5 rfl SpM_ok ?_
        simp only [wL0, wLc, true_and, w11, w4, ls00, ls0i, ls0r, ls0l, lsi, lsr, lsl, Option.map_some, w7, lg0, lgi, lgr, lgl, w70]
        rw [show (1 : Int32) = nI 1 from rfl, nI_add, nI_add]
        exact hi
  exact key _ 0 (Nat.zero_add _)
theorem fr_and : ∀ b, b < 4 → (3 : Int32) &&& (nI b ^^^ -1) = nI (3 - b) := by decide +kernel
theorem R_freeBy {o : Nat} (hI : Inv (σ.1 1)) (ho : o < 1024) (hk : K (some (.int (nI (frN (σ.1 1) o)))) σ) : Rn 1 ev mM_freeBy [.ref 0, .int (nI o)] σ K := by
  have hn := hI.1
  have hn10 := hn.2
  refine Rn_V (by decide) rc6 rfl rfl ?_
  refine PW_blk okM_freeBy 0 rfl SpM_ok ?_
  simp only [wL0, wLc, true_and, w0, w4, ls00, ls0i, ls0r, ls0l, lsi, lsr, lsl, Option.map_some, w71]
  have key : ∀ (m k : Nat), k + m = nv (σ.1 1) 3 → PW 1 ev mM_freeBy 4 [.ref 0, .int (nI o), .int (nI (bdU (σ.1 1) o k)), .int (nI k)] [] σ K := by
    intro m
    induction m with
    | zero =>
      intro k hkm
      have e : k = nv (σ.1 1) 3 := by omega
      subst e
      refine PW_blk okM_freeBy 1 rfl SpM_ok ?_
      simp only [wL0, wLc, true_and, w1, lg0, lgi, lgr, lgl, w2, w35, kM0, rM0, kM1, nM1, w0, w39, tn3, vi3_120, w81, hn.1]
      refine ⟨fun _ => ?_, fun h => absurd h (nI_nlt (Nat.le_refl _) (by omega))⟩
      refine PW_blk okM_freeBy 6 rfl SpM_ok ?_
      simp only [wL0, wLc, true_and, w0, w1, lg0, lgi, lgr, lgl, w18, w16, w84]
      rw [fr_and _ (bdU_lt hI o _ (Nat.le_refl _))]
      exact hk
    | succ m ih =>
      intro k hkm
      have hkn : k < nv (σ.1 1) 3 := by omega
      have hk10 : k < 10 := by omega
      have hK := hI.2.2.2.2.2.2.2.2.1 k hkn
      refine PW_blk okM_freeBy 1 rfl SpM_ok ?_
      simp only [wL0, wLc, true_and, w1, lg0, lgi, lgr, lgl, w2, w35, kM0, rM0, kM1, nM1, w0, w39, tn3, vi3_120, w81, hn.1]
      refine ⟨fun h => absurd (nI_lt hkn (by omega)) h, fun _ => ?_⟩
      refine PW_blk okM_freeBy 2 rfl SpM_ok ?_
      simp only [wL0, wLc, true_and, w1, lg0, lgi, lgr, lgl, w55_2, q40, q41, q42, q43, q44, Option.toList_some, Option.toList_none, List.cons_append, List.nil_append, sp_isIn, w72]
      have e1 : bdU (σ.1 1) o (k + 1) = bdU (σ.1 1) o k ||| (if o.testBit k then 0 else nv (σ.1 1) (tr k 4)) := rfl
      have hi := ih (k + 1) (by omega)
      rw [e1] at hi
      rw [isInF_n (by omega) (by omega)]
      refine ⟨fun h => ?_, fun h => ?_⟩
      · rw [if01] at h
        rw [if_neg h] at hi
        refine PW_blk okM_freeBy 4 rfl SpM_ok ?_
        simp only [wL0, wLc, true_and, w2, lg0, lgi, lgr, lgl, w1, w0, w54_3, q40, q41, q42, q43, q44, Option.toList_some, Option.toList_none, List.cons_append, List.nil_append, sp_get, w71, gv4 hk10, gt4 hk10, hK.2.2.2.2.1.1]
        refine PW_blk okM_freeBy 5 rfl SpM_ok ?_
        simp only [wL0, wLc, true_and, w17, w4, ls00, ls0i, ls0r, ls0l, lsi, lsr, lsl, Option.map_some, w7, lg0, lgi, lgr, lgl, w70]
        rw [show (1 : Int32) = nI 1 from rfl, nI_add, fa_or]
        exact hi
      · rw [if01] at h
        rw [if_pos (Decidable.not_not.mp h)] at hi
        refine PW_blk okM_freeBy 3 rfl SpM_ok ?_
        simp only [wL0, wLc, true_and, w0, w70]
        refine PW_blk okM_freeBy 5 rfl SpM_ok ?_
        simp only [wL0, wLc, true_and, w17, w4, ls00, ls0i, ls0r, ls0l, lsi, lsr, lsl, Option.map_some, w7, lg0, lgi, lgr, lgl, w70]
        rw [show (0 : Int32) = nI 0 from rfl, show (1 : Int32) = nI 1 from rfl, nI_add, fa_or]
        exact hi
  exact key _ 0 (Nat.zero_add _)
theorem R_whyBy {k o fr : Nat} {sl : Int32} (hI : Inv (σ.1 1)) (ho : o < 1024) (hf : fr < 1024) (hkn : k < nv (σ.1 1) 3) (hk : K (some (.int (whyF (σ.1 1) k o sl (nI (pcn fr))))) σ) : Rn 1 ev mM_whyBy [.ref 0, .int (nI k), .int (nI o), .int sl, .int (nI fr)] σ K := by
  have hn := hI.1
  have hn10 := hn.2
  have hk10 : k < 10 := by omega
  unfold whyF at hk
  refine Rn_V (by decide) rc6 rfl rfl ?_
  refine PW_blk okM_whyBy 0 rfl SpM_ok ?_
  simp only [wL0, wLc, true_and, w1, lg0, lgi, lgr, lgl, w55_2, q40, q41, q42, q43, q44, Option.toList_some, Option.toList_none, List.cons_append, List.nil_append, sp_isIn, w72]
  rw [isInF_n (by omega) (by omega)]
  refine ⟨fun h => ?_, fun h => ?_⟩
  rotate_left
  · rw [if01] at h
    rw [if_pos (Decidable.not_not.mp h)] at hk
    refine PW_blk okM_whyBy 1 rfl SpM_ok ?_
    simp only [wL0, wLc, true_and, w0, w84]
    exact hk
  rw [if01] at h
  rw [if_neg h] at hk
  refine PW_blk okM_whyBy 2 rfl SpM_ok ?_
  simp only [wL0, wLc, true_and, w1, lg0, lgi, lgr, lgl, w2, w0, w54_3, q40, q41, q42, q43, q44, Option.toList_some, Option.toList_none, List.cons_append, List.nil_append, sp_get, w81, gv3 hk10, gt3 hk10]
  refine ⟨fun h => ?_, fun h => ?_⟩
  rotate_left
  · rw [if_pos h] at hk
    refine PW_blk okM_whyBy 3 rfl SpM_ok ?_
    simp only [wL0, wLc, true_and, w0, w84]
    exact hk
  rw [if_neg h] at hk
  refine PW_blk okM_whyBy 4 rfl SpM_ok ?_
  simp only [wL0, wLc, true_and, w1, lg0, lgi, lgr, lgl, w55_1, q40, q41, q42, q43, q44, Option.toList_some, Option.toList_none, List.cons_append, List.nil_append, w2, w0, w54_3, sp_get, w81]
  refine R_bits hf ?_
  simp only [wL0, wLc, true_and, w1, lg0, lgi, lgr, lgl, w55_1, q40, q41, q42, q43, q44, Option.toList_some, Option.toList_none, List.cons_append, List.nil_append, w2, w0, w54_3, sp_get, w81, gv5 hk10, gt5 hk10]
  refine ⟨fun h => ?_, fun h => ?_⟩
  rotate_left
  · rw [if_pos h] at hk
    refine PW_blk okM_whyBy 5 rfl SpM_ok ?_
    simp only [wL0, wLc, true_and, w0, w84]
    exact hk
  rw [if_neg h] at hk
  have k71 : (K (some (.int (if ¬ (σ.1 1 (tr k 8) &&& (nI o ^^^ -1) = 0) then 5 else if ¬ (σ.1 1 (tr k 9) &&& (((1 : Int32) <<< (nI k &&& 31)) ^^^ -1) &&& nI o = 0) then 6 else 0))) σ) → PW 1 ev mM_whyBy 71 [.ref 0, .int (nI k), .int (nI o), .int sl, .int (nI fr)] [] σ K := by
    intro hk
    refine PW_blk okM_whyBy 9 rfl SpM_ok ?_
    simp only [wL0, wLc, true_and, w2, lg0, lgi, lgr, lgl, w1, w0, w54_3, q40, q41, q42, q43, q44, Option.toList_some, Option.toList_none, List.cons_append, List.nil_append, sp_get, w18, w16, w72, gv8 hk10, gt8 hk10]
    refine ⟨fun h => ?_, fun h => ?_⟩
    rotate_left
    · rw [if_pos h] at hk
      refine PW_blk okM_whyBy 10 rfl SpM_ok ?_
      simp only [wL0, wLc, true_and, w0, w84]
      exact hk
    rw [if_neg (Decidable.not_not.mpr h)] at hk
    refine PW_blk okM_whyBy 11 rfl SpM_ok ?_
    simp only [wL0, wLc, true_and, w2, lg0, lgi, lgr, lgl, w1, w0, w54_3, q40, q41, q42, q43, q44, Option.toList_some, Option.toList_none, List.cons_append, List.nil_append, sp_get, w19, w18, w16, w72, gv9 hk10, gt9 hk10]
    refine ⟨fun h => ?_, fun h => ?_⟩
    · rw [if_neg (Decidable.not_not.mpr h)] at hk
      refine PW_blk okM_whyBy 13 rfl SpM_ok ?_
      simp only [wL0, wLc, true_and, w0, w71]
      refine PW_blk okM_whyBy 14 rfl SpM_ok ?_
      simp only [wL0, w84]
      exact hk
    · rw [if_pos h] at hk
      refine PW_blk okM_whyBy 12 rfl SpM_ok ?_
      simp only [wL0, wLc, true_and, w0, w70]
      refine PW_blk okM_whyBy 14 rfl SpM_ok ?_
      simp only [wL0, w84]
      exact hk
  refine PW_blk okM_whyBy 6 rfl SpM_ok ?_
  simp only [wL0, wLc, true_and, w2, lg0, lgi, lgr, lgl, w1, w0, w54_3, q40, q41, q42, q43, q44, Option.toList_some, Option.toList_none, List.cons_append, List.nil_append, sp_get, w77, gv6 hk10, gt6 hk10]
  refine ⟨fun h => ?_, fun h => ?_⟩
  · rw [if_neg (fun z => h z.1)] at hk
    exact k71 hk
  refine PW_blk okM_whyBy 7 rfl SpM_ok ?_
  simp only [wL0, wLc, true_and, w2, lg0, lgi, lgr, lgl, w35, kM0, rM0, kM1, nM1, w0, w39, w1, w54_3, q40, q41, q42, q43, q44, Option.toList_some, Option.toList_none, List.cons_append, List.nil_append, sp_get, w12, w55_2, sp_isIn, tn1, vi1_120, tn4, vi4_120, tn6, vi6_120, w73, gv6 hk10, gt6 hk10]
  refine ⟨fun h2 => ?_, fun h2 => ?_⟩
  · have h3 : isInF (σ.1 1 4) (σ.1 1 (tr k 6) - 1) = 1 := (isInF_01 _ _).resolve_left h2
    rw [if_neg (fun z => z.2 h3)] at hk
    exact k71 hk
  · rw [if_pos ⟨h, by rw [h2]; decide⟩] at hk
    refine PW_blk okM_whyBy 8 rfl SpM_ok ?_
    simp only [wL0, wLc, true_and, w0, w84]
    exact hk
theorem mostF_r {t s : Nat} (ht : t ≤ 60) (ht1 : 1 ≤ t) (hs : s ≤ 130) : mostF 1 (nI t - nI s) = nI (if s < t then t - s else 1) := by
  have key : ∀ t, t < 61 → ∀ s, s < 131 → 1 ≤ t → mostF 1 (nI t - nI s) = nI (if s < t then t - s else 1) := by decide +kernel
  exact key t (by omega) s (by omega) ht1
theorem mostF_o {c : Nat} (hc : c ≤ 90) (h1 : 1 ≤ c) : mostF 1 (nI c / 2) = nI (if 1 < c then c / 2 else 1) := by
  have key : ∀ c, c < 91 → 1 ≤ c → mostF 1 (nI c / 2) = nI (if 1 < c then c / 2 else 1) := by decide +kernel
  exact key c (by omega) h1
theorem nI_li (n : Nat) {x : Int32} (h : x = nI n) : x = nI n := h
theorem R_takesBy {k o : Nat} (hI : Inv (σ.1 1)) (ho : o < 1024) (hkn : k < nv (σ.1 1) 3) (hk : K (some (.int (nI (takesN (σ.1 1) k o)))) σ) : Rn 1 ev mM_takesBy [.ref 0, .int (nI k), .int (nI o), .int (nI (slackN (σ.1 1) o)), .int (nI (frN (σ.1 1) o))] σ K := by
  have hn := hI.1
  have hn10 := hn.2
  have hk10 : k < 10 := by omega
  obtain ⟨hK0, ⟨hK1, hK1'⟩, -⟩ := hI.2.2.2.2.2.2.2.2.1 k hkn
  have hsl := slack_le hI o
  have hp := pcn_le o
  have hfr := frN_lt (σ.1 1) o
  unfold takesN at hk
  dsimp only at hk
  refine Rn_V (by decide) rc6 rfl rfl ?_
  refine PW_blk okM_takesBy 0 rfl SpM_ok ?_
  simp only [wL0, wLc, true_and, w2, lg0, lgi, lgr, lgl, w1, w0, w54_3, q40, q41, q42, q43, q44, Option.toList_some, Option.toList_none, List.cons_append, List.nil_append, sp_get, w4, ls00, ls0i, ls0r, ls0l, lsi, lsr, lsl, Option.map_some, w12, w55_2, sp_most, w55_1, w13, w11, w14, w90, wS0, wSc, gv1 hk10, gt1 hk10, hK1.1]
  refine R_bits ho ?_
  simp only [wL0, wLc, true_and, w2, lg0, lgi, lgr, lgl, w1, w0, w54_3, q40, q41, q42, q43, q44, Option.toList_some, Option.toList_none, List.cons_append, List.nil_append, sp_get, w4, ls00, ls0i, ls0r, ls0l, lsi, lsr, lsl, Option.map_some, w12, w55_2, sp_most, w55_1, w13, w11, w14, w90, wS0, wSc, gv0 hk10, gt0 hk10, hK0.1]
  refine ⟨by decide, ?_⟩
  rw [mostF_r hK1.2 hK1' hsl, show (3 : Int32) = nI 3 from rfl, pk_mul, nI_add, mostF_o (by have := hK1.2; omega) (by omega)]
  generalize hkd : nv (σ.1 1) (tr k 0) = kd at hk ⊢
  have hkd6 : kd ≤ 6 := by rw [← hkd]; exact hK0.2
  refine ⟨fun h => ?_, fun h => ?_⟩
  · have e : kd = 1 := (nI_eq (by omega) (by decide)).mp h
    subst e
    refine PW_blk okM_takesBy 1 rfl SpM_ok ?_
    simp only [wL0, wLc, true_and, w1, lg0, lgi, lgr, lgl, w84]
    exact hk
  have n1 : ¬ kd = 1 := fun e => h (by rw [e] <;> rfl)
  rw [if_neg n1] at hk
  refine ⟨fun h => ?_, fun h => ?_⟩
  · have e : kd = 2 := (nI_eq (by omega) (by decide)).mp h
    subst e
    refine PW_blk okM_takesBy 2 rfl SpM_ok ?_
    simp only [wL0, wLc, true_and, w1, lg0, lgi, lgr, lgl, w84]
    exact hk
  have n2 : ¬ kd = 2 := fun e => h (by rw [e] <;> rfl)
  rw [if_neg n2] at hk
  refine ⟨fun h => ?_, fun h => ?_⟩
  · have e : kd = 3 := (nI_eq (by omega) (by decide)).mp h
    subst e
    refine PW_blk okM_takesBy 3 rfl SpM_ok ?_
    simp only [wL0, wLc, true_and, w1, lg0, lgi, lgr, lgl, w84]
    exact hk
  have n3 : ¬ kd = 3 := fun e => h (by rw [e] <;> rfl)
  rw [if_neg n3] at hk
  refine ⟨fun h => ?_, fun h => ?_⟩
  · have e : kd = 4 := (nI_eq (by omega) (by decide)).mp h
    subst e
    refine PW_blk okM_takesBy 4 rfl SpM_ok ?_
    simp only [wL0, wLc, true_and, w1, lg0, lgi, lgr, lgl, w0, w11, w84]
    rw [show (4 : Int32) = nI 4 from rfl, nI_add]
    exact hk
  have n4 : ¬ kd = 4 := fun e => h (by rw [e] <;> rfl)
  rw [if_neg n4] at hk
  refine ⟨fun h => ?_, fun h => ?_⟩
  · have e : kd = 5 := (nI_eq (by omega) (by decide)).mp h
    subst e
    refine PW_blk okM_takesBy 5 rfl SpM_ok ?_
    simp only [wL0, wLc, true_and, w1, lg0, lgi, lgr, lgl, w0, w11, w84]
    rw [show (2 : Int32) = nI 2 from rfl, nI_add]
    exact hk
  have n5 : ¬ kd = 5 := fun e => h (by rw [e] <;> rfl)
  rw [if_neg n5] at hk
  refine ⟨fun h => ?_, fun h => ?_⟩
  · have e : kd = 6 := (nI_eq (by omega) (by decide)).mp h
    subst e
    rw [if_pos rfl] at hk
    refine PW_blk okM_takesBy 6 rfl SpM_ok ?_
    simp only [wL0, wLc, true_and, w1, lg0, lgi, lgr, lgl, w55_1, q40, q41, q42, q43, q44, Option.toList_some, Option.toList_none, List.cons_append, List.nil_append, w0, w81]
    refine R_bits (by omega) ?_
    simp only [wL0, wLc, true_and, w1, lg0, lgi, lgr, lgl, w55_1, q40, q41, q42, q43, q44, Option.toList_some, Option.toList_none, List.cons_append, List.nil_append, w0, w81]
    rw [show (2 : Int32) = nI 2 from rfl, nI_lt_iff (by have := pcn_le (frN (σ.1 1) o); omega) (by decide)]
    refine ⟨fun h2 => ?_, fun h2 => ?_⟩
    · rw [show hdN (σ.1 1) o = pcn (frN (σ.1 1) o) from rfl, if_neg h2] at hk
      refine PW_blk okM_takesBy 8 rfl SpM_ok ?_
      simp only [wL0, wLc, true_and, w1, lg0, lgi, lgr, lgl, w71]
      refine PW_blk okM_takesBy 9 rfl SpM_ok ?_
      simp only [wL0, w84]
      exact hk
    · rw [show hdN (σ.1 1) o = pcn (frN (σ.1 1) o) from rfl, if_pos h2] at hk
      refine PW_blk okM_takesBy 7 rfl SpM_ok ?_
      simp only [wL0, wLc, true_and, w0, w1, lg0, lgi, lgr, lgl, w13, w70]
      refine PW_blk okM_takesBy 9 rfl SpM_ok ?_
      simp only [wL0, w84]
      rw [show (2 : Int32) = nI 2 from rfl, pk_mul]
      exact hk
  have n6 : ¬ kd = 6 := fun e => h (by rw [e] <;> rfl)
  rw [if_neg n6] at hk
  refine PW_blk okM_takesBy 10 rfl SpM_ok ?_
  simp only [wL0, wLc, true_and, w1, lg0, lgi, lgr, lgl, w84]
  exact hk
theorem R_soundsOf {k : Nat} (hI : Inv (σ.1 1)) (hkn : k < nv (σ.1 1) 3) (hk : K (some (.int (nI (soundN (σ.1 1) k)))) σ) : Rn 1 ev mM_soundsOf [.ref 0, .int (nI k)] σ K := by
  have hn := hI.1
  have hn10 := hn.2
  have hk10 : k < 10 := by omega
  obtain ⟨hK0, ⟨hK1, hK1'⟩, -⟩ := hI.2.2.2.2.2.2.2.2.1 k hkn
  unfold soundN at hk
  dsimp only at hk
  refine Rn_V (by decide) rc6 rfl rfl ?_
  refine PW_blk okM_soundsOf 0 rfl SpM_ok ?_
  simp only [wL0, wLc, true_and, w2, lg0, lgi, lgr, lgl, w1, w0, w54_3, q40, q41, q42, q43, q44, Option.toList_some, Option.toList_none, List.cons_append, List.nil_append, sp_get, w14, w4, ls00, ls0i, ls0r, ls0l, lsi, lsr, lsl, Option.map_some, w90, wS0, wSc, gv1 hk10, gt1 hk10, hK1.1, gv0 hk10, gt0 hk10, hK0.1]
  refine ⟨by decide, ?_⟩
  rw [show (2 : Int32) = nI 2 from rfl, pk_div (by have := hK1.2; omega) (by decide) (by decide)]
  generalize hkd : nv (σ.1 1) (tr k 0) = kd at hk ⊢
  have hkd6 : kd ≤ 6 := by rw [← hkd]; exact hK0.2
  refine ⟨fun h => ?_, fun h => ?_⟩
  · have e : kd = 1 := (nI_eq (by omega) (by decide)).mp h
    subst e
    refine PW_blk okM_soundsOf 1 rfl SpM_ok ?_
    simp only [wL0, wLc, true_and, w0, w84]
    exact hk
  have n1 : ¬ kd = 1 := fun e => h (by rw [e] <;> rfl)
  rw [if_neg n1] at hk
  refine ⟨fun h => ?_, fun h => ?_⟩
  · have e : kd = 2 := (nI_eq (by omega) (by decide)).mp h
    subst e
    refine PW_blk okM_soundsOf 2 rfl SpM_ok ?_
    simp only [wL0, wLc, true_and, w1, lg0, lgi, lgr, lgl, w84]
    exact hk
  have n2 : ¬ kd = 2 := fun e => h (by rw [e] <;> rfl)
  rw [if_neg n2] at hk
  refine ⟨fun h => ?_, fun h => ?_⟩
  · have e : kd = 3 := (nI_eq (by omega) (by decide)).mp h
    subst e
    refine PW_blk okM_soundsOf 3 rfl SpM_ok ?_
    simp only [wL0, wLc, true_and, w1, lg0, lgi, lgr, lgl, w0, w11, w84]
    rw [show (1 : Int32) = nI 1 from rfl, nI_add]
    exact hk
  have n3 : ¬ kd = 3 := fun e => h (by rw [e] <;> rfl)
  rw [if_neg n3] at hk
  refine ⟨fun h => ?_, fun h => ?_⟩
  · have e : kd = 4 := (nI_eq (by omega) (by decide)).mp h
    subst e
    refine PW_blk okM_soundsOf 4 rfl SpM_ok ?_
    simp only [wL0, wLc, true_and, w0, w1, lg0, lgi, lgr, lgl, w11, w13, w84]
    rw [show (1 : Int32) = nI 1 from rfl, nI_add, show (2 : Int32) = nI 2 from rfl, pk_mul]
    exact hk
  have n4 : ¬ kd = 4 := fun e => h (by rw [e] <;> rfl)
  rw [if_neg n4] at hk
  refine ⟨fun h => ?_, fun h => ?_⟩
  · have e : kd = 5 := (nI_eq (by omega) (by decide)).mp h
    subst e
    refine PW_blk okM_soundsOf 5 rfl SpM_ok ?_
    simp only [wL0, wLc, true_and, w0, w84]
    exact hk
  have n5 : ¬ kd = 5 := fun e => h (by rw [e] <;> rfl)
  rw [if_neg n5] at hk
  refine PW_blk okM_soundsOf 6 rfl SpM_ok ?_
  simp only [wL0, wLc, true_and, w0, w84]
  exact hk
theorem R_mayBy {o : Nat} (hI : Inv (σ.1 1)) (ho : o < 1024) (hk : K (some (.int (nI (mayN (σ.1 1) o)))) σ) : Rn 1 ev mM_mayBy [.ref 0, .int (nI o)] σ K := by
  have hn := hI.1
  have hn10 := hn.2
  refine Rn_V (by decide) rc6 rfl rfl ?_
  refine PW_blk okM_mayBy 0 rfl SpM_ok ?_
  simp only [wL0, wLc, true_and, w2, lg0, lgi, lgr, lgl, w1, w54_2, q40, q41, q42, q43, q44, Option.toList_some, Option.toList_none, List.cons_append, List.nil_append, w4, ls00, ls0i, ls0r, ls0l, lsi, lsr, lsl, Option.map_some, w0, w71]
  refine R_slackBy hI ho ?_
  simp only [wL0, wLc, true_and, w2, lg0, lgi, lgr, lgl, w1, w54_2, q40, q41, q42, q43, q44, Option.toList_some, Option.toList_none, List.cons_append, List.nil_append, w4, ls00, ls0i, ls0r, ls0l, lsi, lsr, lsl, Option.map_some, w0, w71]
  refine R_freeBy hI ho ?_
  simp only [wL0, wLc, true_and, w2, lg0, lgi, lgr, lgl, w1, w54_2, q40, q41, q42, q43, q44, Option.toList_some, Option.toList_none, List.cons_append, List.nil_append, w4, ls00, ls0i, ls0r, ls0l, lsi, lsr, lsl, Option.map_some, w0, w71]
  have key : ∀ (m k : Nat), k + m = nv (σ.1 1) 3 → PW 1 ev mM_mayBy 18 [.ref 0, .int (nI o), .int (nI (slackN (σ.1 1) o)), .int (nI (frN (σ.1 1) o)), .int (nI (mayU (σ.1 1) o k)), .int (nI k)] [] σ K := by
    intro m
    induction m with
    | zero =>
      intro k hkm
      have e : k = nv (σ.1 1) 3 := by omega
      subst e
      refine PW_blk okM_mayBy 1 rfl SpM_ok ?_
      simp only [wL0, wLc, true_and, w1, lg0, lgi, lgr, lgl, w2, w35, kM0, rM0, kM1, nM1, w0, w39, tn3, vi3_120, w81, hn.1]
      refine ⟨fun _ => ?_, fun h => absurd h (nI_nlt (Nat.le_refl _) (by omega))⟩
      refine PW_blk okM_mayBy 6 rfl SpM_ok ?_
      simp only [wL0, wLc, true_and, w1, lg0, lgi, lgr, lgl, w84]
      exact hk
    | succ m ih =>
      intro k hkm
      have hkn : k < nv (σ.1 1) 3 := by omega
      refine PW_blk okM_mayBy 1 rfl SpM_ok ?_
      simp only [wL0, wLc, true_and, w1, lg0, lgi, lgr, lgl, w2, w35, kM0, rM0, kM1, nM1, w0, w39, tn3, vi3_120, w81, hn.1]
      refine ⟨fun h => absurd (nI_lt hkn (by omega)) h, fun _ => ?_⟩
      refine PW_blk okM_mayBy 2 rfl SpM_ok ?_
      simp only [wL0, wLc, true_and, w1, lg0, lgi, lgr, lgl, w2, w54_5, q40, q41, q42, q43, q44, Option.toList_some, Option.toList_none, List.cons_append, List.nil_append, w73]
      refine R_whyBy hI ho (by have := frN_lt (σ.1 1) o; omega) hkn ?_
      simp only [wL0, wLc, true_and, w1, lg0, lgi, lgr, lgl, w2, w54_5, q40, q41, q42, q43, q44, Option.toList_some, Option.toList_none, List.cons_append, List.nil_append, w73]
      have e1 : mayU (σ.1 1) o (k + 1) = mayU (σ.1 1) o k ||| (if whyF (σ.1 1) k o (nI (slackN (σ.1 1) o)) (nI (hdN (σ.1 1) o)) = 0 then 2 ^ k else 0) := rfl
      have hi := ih (k + 1) (by omega)
      rw [e1] at hi
      refine ⟨fun h => ?_, fun h => ?_⟩
      · have h' : ¬ whyF (σ.1 1) k o (nI (slackN (σ.1 1) o)) (nI (hdN (σ.1 1) o)) = 0 := h
        rw [if_neg h'] at hi
        refine PW_blk okM_mayBy 4 rfl SpM_ok ?_
        simp only [wL0, wLc, true_and, w0, w71]
        refine PW_blk okM_mayBy 5 rfl SpM_ok ?_
        simp only [wL0, wLc, true_and, w17, w4, ls00, ls0i, ls0r, ls0l, lsi, lsr, lsl, Option.map_some, w7, lg0, lgi, lgr, lgl, w70]
        rw [show (0 : Int32) = nI 0 from rfl, show (1 : Int32) = nI 1 from rfl, nI_add, fa_or]
        exact hi
      · have h' : whyF (σ.1 1) k o (nI (slackN (σ.1 1) o)) (nI (hdN (σ.1 1) o)) = 0 := h
        rw [if_pos h'] at hi
        refine PW_blk okM_mayBy 3 rfl SpM_ok ?_
        simp only [wL0, wLc, true_and, w0, w1, lg0, lgi, lgr, lgl, w19, w70]
        refine PW_blk okM_mayBy 5 rfl SpM_ok ?_
        simp only [wL0, wLc, true_and, w17, w4, ls00, ls0i, ls0r, ls0l, lsi, lsr, lsl, Option.map_some, w7, lg0, lgi, lgr, lgl, w70]
        rw [nI_sh1 k (by omega), show (1 : Int32) = nI 1 from rfl, nI_add, fa_or]
        exact hi
  exact key _ 0 (Nat.zero_add _)
theorem R_takesNow {k : Nat} (hI : Inv (σ.1 1)) (hkn : k < nv (σ.1 1) 3) (hk : K (some (.int (nI (takesN (σ.1 1) k (nv (σ.1 1) 2))))) σ) : Rn 1 ev mM_takesNow [.ref 0, .int (nI k)] σ K := by
  have h2 := hI.2.1.1
  have ho : nv (σ.1 1) 2 < 1024 := by have := h2.2; omega
  refine Rn_V (by decide) rc6 rfl rfl ?_
  refine PW_blk okM_takesNow 0 rfl SpM_ok ?_
  simp only [wL0, wLc, true_and, w2, lg0, lgi, lgr, lgl, w1, w35, kM0, rM0, kM1, nM1, w0, w39, w54_2, q40, q41, q42, q43, q44, Option.toList_some, Option.toList_none, List.cons_append, List.nil_append, w54_5, tn2, vi2_120, w84, h2.1]
  refine R_slackBy hI ho ?_
  simp only [wL0, wLc, true_and, w2, lg0, lgi, lgr, lgl, w1, w35, kM0, rM0, kM1, nM1, w0, w39, w54_2, q40, q41, q42, q43, q44, Option.toList_some, Option.toList_none, List.cons_append, List.nil_append, w54_5, tn2, vi2_120, w84, h2.1]
  refine R_freeBy hI ho ?_
  simp only [wL0, wLc, true_and, w2, lg0, lgi, lgr, lgl, w1, w35, kM0, rM0, kM1, nM1, w0, w39, w54_2, q40, q41, q42, q43, q44, Option.toList_some, Option.toList_none, List.cons_append, List.nil_append, w54_5, tn2, vi2_120, w84, h2.1]
  refine R_takesBy hI ho hkn ?_
  simp only [wL0, wLc, true_and, w2, lg0, lgi, lgr, lgl, w1, w35, kM0, rM0, kM1, nM1, w0, w39, w54_2, q40, q41, q42, q43, q44, Option.toList_some, Option.toList_none, List.cons_append, List.nil_append, w54_5, tn2, vi2_120, w84]
  exact hk
end MA
