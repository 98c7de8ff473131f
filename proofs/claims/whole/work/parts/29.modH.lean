/-! countsWays, ever, states, rows -/
def okW (S : Nat → Int32) (stop : Int32) (s k : Nat) : Prop := k < nv S 3 ∧ mayok S k s ∧ (¬ stop = 0 → ¬ outP S s)
theorem okW_p {S : Nat → Int32} {stop : Int32} (hn : nv S 3 ≤ 10) : okp (okW S stop) := fun s k h => ⟨why_bit h.2.1, by have := h.1; omega⟩
noncomputable def cw (S : Nat → Int32) (stop : Int32) (o t : Nat) : Nat := fw (okW S stop) o t t
def orU (f : Nat → Nat) : Nat → Nat
  | 0 => 0
  | k + 1 => orU f k ||| f k
def suU (f : Nat → Nat) : Nat → Nat
  | 0 => 0
  | k + 1 => suU f k + f k
theorem nI_p0 {n : Nat} (h : n < 2147483648) : (0 : Int32) < nI n ↔ n ≠ 0 := by
  rw [show (0 : Int32) = nI 0 from rfl, nI_lt_iff (by decide) h]
  omega
theorem cw_small {S : Nat → Int32} {stop : Int32} {o t : Nat} (hn : nv S 3 ≤ 10) (ho : o < 1024) (ht : t < 1024) : cw S stop o t ≤ 3628800 := fw_small (okW_p hn) ho ht
theorem m1_pos {n : Nat} (h : 0 < n) : nI n - 1 = nI (n - 1) := by rw [show (1 : Int32) = nI 1 from rfl, pk_sub (by omega)]
section MH
variable {ev : EV} {σ : St2} {K : PO}
theorem R_countsWays {stop : Int32} (hI : Inv (σ.1 1)) (hk : ∀ r, (∀ t, t < 1024 → r t = nI (cw (σ.1 1) stop (nv (σ.1 1) 2) t)) → K none (sr σ 7 r)) : Rn 1 ev mM_countsWays [.ref 0, .int stop] σ K := by
  have hG := hI.2.1.1
  have hn := hI.1.2
  have hT := p2le _ hn
  have hoT := hI.2.1.2
  have hop := okW_p (S := σ.1 1) (stop := stop) hn
  have hokn : ∀ s k, okW (σ.1 1) stop s k → k < nv (σ.1 1) 3 := fun s k h => h.1
  refine Rn_V (by decide) rc6 rfl rfl ?_
  refine PW_blk okM_countsWays 0 rfl SpM_ok ?_
  simp only [wL0, wLc, true_and, w2, lg0, lgi, lgr, lgl, w35, kM0, rM0, kM1, nM1, w0, w39, w4, ls00, ls0i, ls0r, ls0l, lsi, lsr, lsl, Option.map_some, tn0, vi0_120, tn2, vi2_120, w71, hG.1]
  unfold cw at hk
  generalize ho : nv (σ.1 1) 2 = o at *
  have key := lp_up (n := 1024) (P := fun i => ∀ r, (∀ t, t < i → r t = nI (fw (okW (σ.1 1) stop) o 0 t)) → PW 1 ev mM_countsWays 9 [.ref 0, .int stop, .int (nI o), .int (nI i)] [] (sr σ 7 r) K) ?_ ?_ 0 (by decide) (σ.1 7) (fun t h => absurd h (Nat.not_lt_zero t))
  · rw [sr_self] at key
    exact key
  · intro r hr
    refine PW_blk okM_countsWays 1 rfl SpM_ok ?_
    simp only [wL0, wLc, true_and, w1, lg0, lgi, lgr, lgl, w0, w81]
    refine b3N (by decide) ?_
    refine PW_blk okM_countsWays 6 rfl SpM_ok ?_
    simp only [wL0, wLc, true_and, w1, lg0, lgi, lgr, lgl, w4, ls00, ls0i, ls0r, ls0l, lsi, lsr, lsl, Option.map_some, w71]
    have k2 := lp_up (n := 2 ^ nv (σ.1 1) 3) (P := fun s => ∀ r, (∀ t, t < 1024 → r t = nI (fw (okW (σ.1 1) stop) o s t)) → PW 1 ev mM_countsWays 40 [.ref 0, .int stop, .int (nI o), .int (nI s)] [] (sr σ 7 r) K) ?_ ?_ o (by omega) r (fun t ht => by rw [fw_first hop (Nat.le_refl _)]; exact hr t ht)
    · exact k2
    · intro r hr
      refine PW_blk okM_countsWays 7 rfl SpM_ok ?_
      simp only [wL0, wLc, true_and, w1, lg0, lgi, lgr, lgl, w2, w54_1, q40, q41, q42, q43, q44, Option.toList_some, Option.toList_none, List.cons_append, List.nil_append, sp_allLocks, w82, n7_1, hI.1.1]
      rw [alF_n _ (by omega)]
      refine b2Y (nI_lt (by omega) (by omega)) ?_
      refine PW_blk okM_countsWays 20 rfl SpM_ok ?_
      simp only [wL0, w87]
      refine hk r (fun t ht => ?_)
      rw [hr t ht]
      by_cases h : t ≤ 2 ^ nv (σ.1 1) 3
      · rw [fw_stab hop (Nat.le_refl t) h]
      · rw [fw_last hop hokn hoT (s := t) (by omega)]
    · intro s hs ih r hr
      have hs10 : s < 1024 := by omega
      have hsm := fw_small hop (fr := o) (by omega) hs10
      have hv : vp_in (nI s) 1024 := vp_in_nI hs10 (by decide)
      have cl : (nI s).toNatClampNeg = s := nI_clamp (by omega)
      refine PW_blk okM_countsWays 7 rfl SpM_ok ?_
      simp only [wL0, wLc, true_and, w1, lg0, lgi, lgr, lgl, w2, w54_1, q40, q41, q42, q43, q44, Option.toList_some, Option.toList_none, List.cons_append, List.nil_append, sp_allLocks, w82, n7_1, hI.1.1]
      rw [alF_n _ (by omega)]
      refine b2N (nI_nlt (by omega) (by omega)) ?_
      refine PW_blk okM_countsWays 8 rfl SpM_ok ?_
      simp only [wL0, wLc, true_and, w2, lg0, lgi, lgr, lgl, w35, kM0, rM8, kM7, nM7, w1, w39, w72, sr1, eq_true hv, cl, hr s hs10]
      have fin : ∀ M, M < 1024 → (∀ k, k < nv (σ.1 1) 3 → (M.testBit k = true ↔ okW (σ.1 1) stop s k) ∨ fw (okW (σ.1 1) stop) o s s = 0) → PW 1 ev mM_countsWays 78 [.ref 0, .int stop, .int (nI o), .int (nI s)] [.int (nI M)] (sr σ 7 r) K := by
        intro M hM10 hM
        refine PW_blk okM_countsWays 13 rfl SpM_ok ?_
        simp only [wL0, wLc, true_and, w4, ls00, ls0i, ls0r, ls0l, lsi, lsr, lsl, Option.map_some, w0, w71]
        have k3 := lp_up (n := nv (σ.1 1) 3) (P := fun m => ∀ r, (∀ t, t < 1024 → r t = nI (fwK (okW (σ.1 1) stop) (fw (okW (σ.1 1) stop) o s) s m t)) → PW 1 ev mM_countsWays 83 [.ref 0, .int stop, .int (nI o), .int (nI s), .int (nI M), .int (nI m)] [] (sr σ 7 r) K) ?_ ?_ 0 (Nat.zero_le _) r (fun t ht => by rw [fwK_0]; exact hr t ht)
        · exact k3
        · intro r hr
          refine PW_blk okM_countsWays 14 rfl SpM_ok ?_
          simp only [wL0, wLc, true_and, w1, lg0, lgi, lgr, lgl, w2, w35, kM0, rM0, kM1, nM1, w0, w39, tn3, vi3_120, w81, n7_1, hI.1.1]
          refine b3N (nI_nlt (Nat.le_refl _) (by omega)) ?_
          refine PW_blk okM_countsWays 19 rfl SpM_ok ?_
          simp only [wL0, wLc, true_and, w7, lg0, lgi, lgr, lgl, ls00, ls0i, ls0r, ls0l, lsi, lsr, lsl, Option.map_some, w70]
          refine PW_loc 4 ?_
          rw [show (1 : Int32) = nI 1 from rfl, nI_add]
          refine ih r (fun t ht => ?_)
          rw [hr t ht]
          rw [fwK_ext (ok := okW (σ.1 1) stop) (m := nv (σ.1 1) 3) (m' := 10) (fun k hk => ⟨fun _ => (hop s k hk).2, fun _ => hk.1⟩)]
          rfl
        · intro m hm ih3 r hr
          have hm10 : m < 10 := by omega
          have htl : s ||| 2 ^ m < 1024 := or_lt (n := 10) hs10 hm10
          have hv2 : vp_in (nI (s ||| 2 ^ m)) 1024 := vp_in_nI htl (by decide)
          have cl2 : (nI (s ||| 2 ^ m)).toNatClampNeg = s ||| 2 ^ m := nI_clamp (by omega)
          refine PW_blk okM_countsWays 14 rfl SpM_ok ?_
          simp only [wL0, wLc, true_and, w1, lg0, lgi, lgr, lgl, w2, w35, kM0, rM0, kM1, nM1, w0, w39, tn3, vi3_120, w81, n7_1, hI.1.1]
          refine b3Y (nI_lt hm (by omega)) ?_
          refine PW_blk okM_countsWays 15 rfl SpM_ok ?_
          simp only [wL0, wLc, true_and, w2, lg0, lgi, lgr, lgl, w35, kM0, rM8, kM7, nM7, w1, w0, w19, w17, w10i, w10r, w39, w55_2, q40, q41, q42, q43, q44, Option.toList_some, Option.toList_none, List.cons_append, List.nil_append, sp_isIn, tn1, w72, sr1, nI_sh1 m (by omega), fa_or, eq_true hv2, cl2]
          rw [isInF_n (by omega) (by omega)]
          have last : PW 1 ev mM_countsWays 126 [.ref 0, .int stop, .int (nI o), .int (nI s), .int (nI M), .int (nI m)] [.int (nI (if M.testBit m then fw (okW (σ.1 1) stop) o s s else 0)), .int (r (s ||| 2 ^ m)), .int (nI (s ||| 2 ^ m)), .ref 7] (sr σ 7 r) K := by
            refine PW_blk okM_countsWays 18 rfl SpM_ok ?_
            simp only [wL0, wLc, true_and, w11, w40, w7, lg0, lgi, lgr, lgl, ls00, ls0i, ls0r, ls0l, lsi, lsr, lsl, Option.map_some, w70, si_sr, kM7, nM7, eq_true hv2, cl2]
            rw [show (1 : Int32) = nI 1 from rfl, nI_add]
            refine ih3 _ (fun t ht => ?_)
            rw [fwK_s hop]
            by_cases e : t = s ||| 2 ^ m
            · subst e
              rw [updS, hr _ ht, nI_add]
              congr 2
              rcases hM m hm with h | h
              · by_cases hb : M.testBit m = true
                · rw [if_pos hb, cif_y ⟨h.mp hb, rfl⟩]
                · rw [if_neg hb, cif_n (fun z => hb (h.mpr z.1))]
              · rw [h]
                by_cases hb : okW (σ.1 1) stop s m ∧ s ||| 2 ^ m = s ||| 2 ^ m
                · rw [cif_y hb]; split <;> rfl
                · rw [cif_n hb]; split <;> rfl
            · rw [updN e, hr t ht, cif_n (fun z => e z.2)]
              rfl
          by_cases hb : M.testBit m = true
          · rw [if_pos hb] at last ⊢
            refine bY rfl ?_
            refine PW_blk okM_countsWays 16 rfl SpM_ok ?_
            simp only [wL0, wLc, true_and, w2, lg0, lgi, lgr, lgl, w35, kM0, rM8, kM7, nM7, w1, w39, w70, sr1, eq_true hv, cl, hr s hs10]
            rw [fwK_low hop (Nat.le_refl _)]
            exact last
          · rw [if_neg hb] at last ⊢
            refine bN rfl ?_
            refine PW_blk okM_countsWays 17 rfl SpM_ok ?_
            simp only [wL0, wLc, true_and, w0, w71]
            exact last
      have zero : (∀ k, k < nv (σ.1 1) 3 → ¬ okW (σ.1 1) stop s k ∨ fw (okW (σ.1 1) stop) o s s = 0) → PW 1 ev mM_countsWays 69 [.ref 0, .int stop, .int (nI o), .int (nI s)] [] (sr σ 7 r) K := by
        intro hz
        refine PW_blk okM_countsWays 11 rfl SpM_ok ?_
        simp only [wL0, wLc, true_and, w0, w70]
        refine fin 0 (by decide) (fun k hk => ?_)
        rcases hz k hk with h | h
        · exact Or.inl ⟨fun z => by simp at z, fun z => absurd z h⟩
        · exact Or.inr h
      have may : (∀ k, ¬ okW (σ.1 1) stop s k → ¬ (k < nv (σ.1 1) 3 ∧ mayok (σ.1 1) k s)) → PW 1 ev mM_countsWays 73 [.ref 0, .int stop, .int (nI o), .int (nI s)] [] (sr σ 7 r) K := by
        intro hz
        refine PW_blk okM_countsWays 12 rfl SpM_ok ?_
        simp only [wL0, wLc, true_and, w2, lg0, lgi, lgr, lgl, w1, w54_2, q40, q41, q42, q43, q44, Option.toList_some, Option.toList_none, List.cons_append, List.nil_append, w71]
        refine R_mayBy (σ := sr σ 7 r) hI hs10 ?_
        simp only [wL0, wLc, true_and, w2, lg0, lgi, lgr, lgl, w1, w54_2, q40, q41, q42, q43, q44, Option.toList_some, Option.toList_none, List.cons_append, List.nil_append, w71, n7_1]
        refine fin _ (by have := mayN_lt (σ.1 1) s; omega) (fun k hk => Or.inl ?_)
        rw [mayN_bit]
        constructor
        · intro h
          exact Classical.byContradiction (fun h2 => hz k h2 h)
        · intro h
          exact ⟨h.1, h.2.1⟩
      rw [nI_z (by omega)]
      by_cases h0 : fw (okW (σ.1 1) stop) o s s = 0
      · refine b2Y h0 ?_
        exact zero (fun k _ => Or.inr h0)
      refine b2N h0 ?_
      refine PW_blk okM_countsWays 9 rfl SpM_ok ?_
      simp only [wL0, wLc, true_and, w1, lg0, lgi, lgr, lgl, w72]
      by_cases h1 : stop = 0
      · refine b2Y h1 ?_
        exact may (fun k h h2 => h ⟨h2.1, h2.2, fun h3 => absurd h1 h3⟩)
      refine b2N h1 ?_
      refine PW_blk okM_countsWays 10 rfl SpM_ok ?_
      simp only [wL0, wLc, true_and, w2, lg0, lgi, lgr, lgl, w1, w54_2, q40, q41, q42, q43, q44, Option.toList_some, Option.toList_none, List.cons_append, List.nil_append, sp_isOut, w72, n7_1]
      by_cases h2 : outP (σ.1 1) s
      · refine bY (if_pos h2) ?_
        exact zero (fun k _ => Or.inl (fun h3 => h3.2.2 h1 h2))
      · refine bN (if_neg h2) ?_
        exact may (fun k h h3 => h ⟨h3.1, h3.2, fun _ => h2⟩)
  · intro i hi ih r hr
    have hv : vp_in (nI i) 1024 := vp_in_nI hi (by decide)
    have cl : (nI i).toNatClampNeg = i := nI_clamp (by omega)
    refine PW_blk okM_countsWays 1 rfl SpM_ok ?_
    simp only [wL0, wLc, true_and, w1, lg0, lgi, lgr, lgl, w0, w81]
    refine b3Y (nI_lt hi (by decide)) ?_
    refine PW_blk okM_countsWays 2 rfl SpM_ok ?_
    simp only [wL0, wLc, true_and, w2, lg0, lgi, lgr, lgl, w35, kM0, rM8, kM7, nM7, w1, w79]
    rw [nI_eq_iff (by omega) (by omega)]
    have fin : ∀ x, x = nI (fw (okW (σ.1 1) stop) o 0 i) → PW 1 ev mM_countsWays 31 [.ref 0, .int stop, .int (nI o), .int (nI i)] [.int x, .int (nI i), .ref 7] (sr σ 7 r) K := by
      intro x hx
      refine PW_blk okM_countsWays 5 rfl SpM_ok ?_
      simp only [wL0, wLc, true_and, w40, w7, lg0, lgi, lgr, lgl, ls00, ls0i, ls0r, ls0l, lsi, lsr, lsl, Option.map_some, w70, si_sr, kM7, nM7, eq_true hv, cl]
      rw [show (1 : Int32) = nI 1 from rfl, nI_add]
      refine ih _ (fun t ht => ?_)
      by_cases e : t = i
      · subst e; rw [updS]; exact hx
      · rw [updN e]; exact hr t (by omega)
    by_cases e : i = o
    · refine b3Y e ?_
      refine PW_blk okM_countsWays 3 rfl SpM_ok ?_
      simp only [wL0, wLc, true_and, w0, w70]
      exact fin 1 (by rw [show fw (okW (σ.1 1) stop) o 0 i = 1 from if_pos e]; rfl)
    · refine b3N e ?_
      refine PW_blk okM_countsWays 4 rfl SpM_ok ?_
      simp only [wL0, wLc, true_and, w0, w71]
      exact fin 0 (by rw [show fw (okW (σ.1 1) stop) o 0 i = 0 from if_neg e]; rfl)
theorem R_ever (hI : Inv (σ.1 1)) (hk : ∀ σ', Sm σ σ' → K (some (.int (nI (dif (orU (fun t => cif (cw (σ.1 1) 0 (nv (σ.1 1) 2) t ≠ 0) t 0) 1024) (nv (σ.1 1) 2))))) σ') : Rn 1 ev mM_ever [.ref 0] σ K := by
  have hG := hI.2.1.1
  have hoT := hI.2.1.2
  have hT := p2le _ hI.1.2
  refine Rn_V (by decide) rc6 rfl rfl ?_
  refine PW_blk okM_ever 0 rfl SpM_ok ?_
  simp only [wL0, wLc, true_and, w2, lg0, lgi, lgr, lgl, w0, w54_2, q40, q41, q42, q43, q44, Option.toList_some, Option.toList_none, List.cons_append, List.nil_append, w4, ls00, ls0i, ls0r, ls0l, lsi, lsr, lsl, Option.map_some, w71]
  refine R_countsWays hI (fun r hr => ?_)
  simp only [wL0, wLc, true_and, w2, lg0, lgi, lgr, lgl, w0, w54_2, q40, q41, q42, q43, q44, Option.toList_some, Option.toList_none, List.cons_append, List.nil_append, w4, ls00, ls0i, ls0r, ls0l, lsi, lsr, lsl, Option.map_some, w71]
  have key := lp_up (n := 1024) (P := fun i => PW 1 ev mM_ever 9 [.ref 0, .int (nI (orU (fun t => cif (cw (σ.1 1) 0 (nv (σ.1 1) 2) t ≠ 0) t 0) i)), .int (nI i)] [] (sr σ 7 r) K) ?_ ?_ 0 (by decide)
  · exact key
  · refine PW_blk okM_ever 1 rfl SpM_ok ?_
    simp only [wL0, wLc, true_and, w1, lg0, lgi, lgr, lgl, w0, w81]
    refine b3N (by decide) ?_
    refine PW_blk okM_ever 6 rfl SpM_ok ?_
    simp only [wL0, wLc, true_and, w1, lg0, lgi, lgr, lgl, w2, w35, kM0, rM0, kM1, nM1, w0, w39, w18, w16, tn2, vi2_120, w84, n7_1, hG.1]
    rw [dif_I]
    exact hk _ (Sm_sr (by decide) (by decide) Sm_r)
  · intro i hi ih
    have hv : vp_in (nI i) 1024 := vp_in_nI hi (by decide)
    have cl : (nI i).toNatClampNeg = i := nI_clamp (by omega)
    have hsm := cw_small (S := σ.1 1) (stop := 0) (o := nv (σ.1 1) 2) hI.1.2 (by omega) hi
    have e : orU (fun t => cif (cw (σ.1 1) 0 (nv (σ.1 1) 2) t ≠ 0) t 0) (i + 1) = orU (fun t => cif (cw (σ.1 1) 0 (nv (σ.1 1) 2) t ≠ 0) t 0) i ||| cif (cw (σ.1 1) 0 (nv (σ.1 1) 2) i ≠ 0) i 0 := rfl
    rw [e] at ih
    refine PW_blk okM_ever 1 rfl SpM_ok ?_
    simp only [wL0, wLc, true_and, w1, lg0, lgi, lgr, lgl, w0, w81]
    refine b3Y (nI_lt hi (by decide)) ?_
    refine PW_blk okM_ever 2 rfl SpM_ok ?_
    simp only [wL0, wLc, true_and, w1, lg0, lgi, lgr, lgl, w2, w35, kM0, rM8, kM7, nM7, w39, w77, sr1, eq_true hv, cl, hr i hi]
    rw [nI_p0 (by omega)]
    by_cases h : cw (σ.1 1) 0 (nv (σ.1 1) 2) i ≠ 0
    · rw [cif_y h] at ih
      refine b3Y h ?_
      refine PW_blk okM_ever 3 rfl SpM_ok ?_
      simp only [wL0, wLc, true_and, w1, lg0, lgi, lgr, lgl, w70]
      refine PW_blk okM_ever 5 rfl SpM_ok ?_
      simp only [wL0, wLc, true_and, w17, w4, ls00, ls0i, ls0r, ls0l, lsi, lsr, lsl, Option.map_some, w7, lg0, lgi, lgr, lgl, w70]
      rw [show (1 : Int32) = nI 1 from rfl, nI_add, fa_or]
      exact ih
    · rw [cif_n h] at ih
      refine b3N h ?_
      refine PW_blk okM_ever 4 rfl SpM_ok ?_
      simp only [wL0, wLc, true_and, w0, w71]
      refine PW_blk okM_ever 5 rfl SpM_ok ?_
      simp only [wL0, wLc, true_and, w17, w4, ls00, ls0i, ls0r, ls0l, lsi, lsr, lsl, Option.map_some, w7, lg0, lgi, lgr, lgl, w70]
      rw [show (1 : Int32) = nI 1 from rfl, nI_add, show (0 : Int32) = nI 0 from rfl, fa_or]
      exact ih
theorem R_states (hI : Inv (σ.1 1)) (hk : ∀ σ', Sm σ σ' → K (some (.int (nI (suU (fun t => cif (cw (σ.1 1) 0 (nv (σ.1 1) 2) t ≠ 0) 1 0) 1024)))) σ') : Rn 1 ev mM_states [.ref 0] σ K := by
  have hoT := hI.2.1.2
  have hT := p2le _ hI.1.2
  refine Rn_V (by decide) rc6 rfl rfl ?_
  refine PW_blk okM_states 0 rfl SpM_ok ?_
  simp only [wL0, wLc, true_and, w2, lg0, lgi, lgr, lgl, w0, w54_2, q40, q41, q42, q43, q44, Option.toList_some, Option.toList_none, List.cons_append, List.nil_append, w4, ls00, ls0i, ls0r, ls0l, lsi, lsr, lsl, Option.map_some, w71]
  refine R_countsWays hI (fun r hr => ?_)
  simp only [wL0, wLc, true_and, w2, lg0, lgi, lgr, lgl, w0, w54_2, q40, q41, q42, q43, q44, Option.toList_some, Option.toList_none, List.cons_append, List.nil_append, w4, ls00, ls0i, ls0r, ls0l, lsi, lsr, lsl, Option.map_some, w71]
  have key := lp_up (n := 1024) (P := fun i => PW 1 ev mM_states 9 [.ref 0, .int (nI (suU (fun t => cif (cw (σ.1 1) 0 (nv (σ.1 1) 2) t ≠ 0) 1 0) i)), .int (nI i)] [] (sr σ 7 r) K) ?_ ?_ 0 (by decide)
  · exact key
  · refine PW_blk okM_states 1 rfl SpM_ok ?_
    simp only [wL0, wLc, true_and, w1, lg0, lgi, lgr, lgl, w0, w81]
    refine b3N (by decide) ?_
    refine PW_blk okM_states 6 rfl SpM_ok ?_
    simp only [wL0, wLc, true_and, w1, lg0, lgi, lgr, lgl, w84]
    exact hk _ (Sm_sr (by decide) (by decide) Sm_r)
  · intro i hi ih
    have hv : vp_in (nI i) 1024 := vp_in_nI hi (by decide)
    have cl : (nI i).toNatClampNeg = i := nI_clamp (by omega)
    have hsm := cw_small (S := σ.1 1) (stop := 0) (o := nv (σ.1 1) 2) hI.1.2 (by omega) hi
    have e : suU (fun t => cif (cw (σ.1 1) 0 (nv (σ.1 1) 2) t ≠ 0) 1 0) (i + 1) = suU (fun t => cif (cw (σ.1 1) 0 (nv (σ.1 1) 2) t ≠ 0) 1 0) i + cif (cw (σ.1 1) 0 (nv (σ.1 1) 2) i ≠ 0) 1 0 := rfl
    rw [e] at ih
    refine PW_blk okM_states 1 rfl SpM_ok ?_
    simp only [wL0, wLc, true_and, w1, lg0, lgi, lgr, lgl, w0, w81]
    refine b3Y (nI_lt hi (by decide)) ?_
    refine PW_blk okM_states 2 rfl SpM_ok ?_
    simp only [wL0, wLc, true_and, w1, lg0, lgi, lgr, lgl, w2, w35, kM0, rM8, kM7, nM7, w39, w77, sr1, eq_true hv, cl, hr i hi]
    rw [nI_p0 (by omega)]
    by_cases h : cw (σ.1 1) 0 (nv (σ.1 1) 2) i ≠ 0
    · rw [cif_y h] at ih
      refine b3Y h ?_
      refine PW_blk okM_states 3 rfl SpM_ok ?_
      simp only [wL0, wLc, true_and, w0, w70]
      refine PW_blk okM_states 5 rfl SpM_ok ?_
      simp only [wL0, wLc, true_and, w11, w4, ls00, ls0i, ls0r, ls0l, lsi, lsr, lsl, Option.map_some, w7, lg0, lgi, lgr, lgl, w70]
      rw [show (1 : Int32) = nI 1 from rfl, nI_add, nI_add]
      exact ih
    · rw [cif_n h] at ih
      refine b3N h ?_
      refine PW_blk okM_states 4 rfl SpM_ok ?_
      simp only [wL0, wLc, true_and, w0, w71]
      refine PW_blk okM_states 5 rfl SpM_ok ?_
      simp only [wL0, wLc, true_and, w11, w4, ls00, ls0i, ls0r, ls0l, lsi, lsr, lsl, Option.map_some, w7, lg0, lgi, lgr, lgl, w70]
      rw [show (1 : Int32) = nI 1 from rfl, nI_add, show (0 : Int32) = nI 0 from rfl, nI_add]
      exact ih
theorem R_rows (hI : Inv (σ.1 1)) (hk : ∀ σ', Sm σ σ' → K (some (.int (nI (suU (fun t => cif (outP (σ.1 1) t) (cw (σ.1 1) 1 (nv (σ.1 1) 2) t) 0) 1024)))) σ') : Rn 1 ev mM_rows [.ref 0] σ K := by
  refine Rn_V (by decide) rc6 rfl rfl ?_
  refine PW_blk okM_rows 0 rfl SpM_ok ?_
  simp only [wL0, wLc, true_and, w2, lg0, lgi, lgr, lgl, w0, w54_2, q40, q41, q42, q43, q44, Option.toList_some, Option.toList_none, List.cons_append, List.nil_append, w4, ls00, ls0i, ls0r, ls0l, lsi, lsr, lsl, Option.map_some, w71]
  refine R_countsWays hI (fun r hr => ?_)
  simp only [wL0, wLc, true_and, w2, lg0, lgi, lgr, lgl, w0, w54_2, q40, q41, q42, q43, q44, Option.toList_some, Option.toList_none, List.cons_append, List.nil_append, w4, ls00, ls0i, ls0r, ls0l, lsi, lsr, lsl, Option.map_some, w71]
  have key := lp_up (n := 1024) (P := fun i => PW 1 ev mM_rows 9 [.ref 0, .int (nI (suU (fun t => cif (outP (σ.1 1) t) (cw (σ.1 1) 1 (nv (σ.1 1) 2) t) 0) i)), .int (nI i)] [] (sr σ 7 r) K) ?_ ?_ 0 (by decide)
  · exact key
  · refine PW_blk okM_rows 1 rfl SpM_ok ?_
    simp only [wL0, wLc, true_and, w1, lg0, lgi, lgr, lgl, w0, w81]
    refine b3N (by decide) ?_
    refine PW_blk okM_rows 6 rfl SpM_ok ?_
    simp only [wL0, wLc, true_and, w1, lg0, lgi, lgr, lgl, w84]
    exact hk _ (Sm_sr (by decide) (by decide) Sm_r)
  · intro i hi ih
    have hv : vp_in (nI i) 1024 := vp_in_nI hi (by decide)
    have cl : (nI i).toNatClampNeg = i := nI_clamp (by omega)
    have e : suU (fun t => cif (outP (σ.1 1) t) (cw (σ.1 1) 1 (nv (σ.1 1) 2) t) 0) (i + 1) = suU (fun t => cif (outP (σ.1 1) t) (cw (σ.1 1) 1 (nv (σ.1 1) 2) t) 0) i + cif (outP (σ.1 1) i) (cw (σ.1 1) 1 (nv (σ.1 1) 2) i) 0 := rfl
    rw [e] at ih
    refine PW_blk okM_rows 1 rfl SpM_ok ?_
    simp only [wL0, wLc, true_and, w1, lg0, lgi, lgr, lgl, w0, w81]
    refine b3Y (nI_lt hi (by decide)) ?_
    refine PW_blk okM_rows 2 rfl SpM_ok ?_
    simp only [wL0, wLc, true_and, w1, lg0, lgi, lgr, lgl, w2, w54_2, q40, q41, q42, q43, q44, Option.toList_some, Option.toList_none, List.cons_append, List.nil_append, sp_isOut, w72, n7_1]
    by_cases h : outP (σ.1 1) i
    · rw [cif_y h] at ih
      refine bY (if_pos h) ?_
      refine PW_blk okM_rows 3 rfl SpM_ok ?_
      simp only [wL0, wLc, true_and, w2, lg0, lgi, lgr, lgl, w35, kM0, rM8, kM7, nM7, w1, w39, w70, sr1, eq_true hv, cl, hr i hi]
      refine PW_blk okM_rows 5 rfl SpM_ok ?_
      simp only [wL0, wLc, true_and, w11, w4, ls00, ls0i, ls0r, ls0l, lsi, lsr, lsl, Option.map_some, w7, lg0, lgi, lgr, lgl, w70]
      rw [show (1 : Int32) = nI 1 from rfl, nI_add, nI_add]
      exact ih
    · rw [cif_n h] at ih
      refine bN (if_neg h) ?_
      refine PW_blk okM_rows 4 rfl SpM_ok ?_
      simp only [wL0, wLc, true_and, w0, w71]
      refine PW_blk okM_rows 5 rfl SpM_ok ?_
      simp only [wL0, wLc, true_and, w11, w4, ls00, ls0i, ls0r, ls0l, lsi, lsr, lsl, Option.map_some, w7, lg0, lgi, lgr, lgl, w70]
      rw [show (1 : Int32) = nI 1 from rfl, nI_add, show (0 : Int32) = nI 0 from rfl, nI_add]
      exact ih
end MH
