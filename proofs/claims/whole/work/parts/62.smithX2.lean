/-! the smith: kinds, goals, links; what the class answers -/
theorem axU_y {f : Nat → Option Nat} {n k v : Nat} (hf : ∀ k, k < n → ∀ v, f k = some v → v ≤ 133120) (hk : k < n) (he : f k = some v) (h : encM (sO (axU f k)) = 2147483647 ∨ encM (sO (axU f k)) < nI v) : axU f (k + 1) = some (k, v) := by
  have hv := hf k hk v he
  conv => lhs; unfold axU
  rw [he]
  cases e2 : axU f k with
  | none => rfl
  | some q =>
    obtain ⟨b, l⟩ := q
    have hb := axU_bd hf k (by omega) b l e2
    rw [e2] at h
    have h2 : l < v := by
      rcases h with h | h
      · exact absurd (show nI l = 2147483647 from h) (encM_ne (by omega))
      · exact (nI_lt_iff (by omega) (by omega)).mp (show nI l < nI v from h)
    show (if l < v then some (k, v) else some (b, l)) = _
    rw [if_pos h2]
theorem axU_n {f : Nat → Option Nat} {n k v : Nat} (hf : ∀ k, k < n → ∀ v, f k = some v → v ≤ 133120) (hk : k < n) (he : f k = some v) (h1 : ¬ encM (sO (axU f k)) = 2147483647) (h : ¬ encM (sO (axU f k)) < nI v) : axU f (k + 1) = axU f k := by
  have hv := hf k hk v he
  conv => lhs; unfold axU
  rw [he]
  cases e2 : axU f k with
  | none => rw [e2] at h1; exact absurd rfl h1
  | some q =>
    obtain ⟨b, l⟩ := q
    have hb := axU_bd hf k (by omega) b l e2
    rw [e2] at h
    have h2 : ¬ l < v := fun z => h ((nI_lt_iff (by omega) (by omega)).mpr z)
    show (if l < v then some (k, v) else some (b, l)) = _
    rw [if_neg h2]
section SZ
variable {ev : EV} {σ : St2} {K : PO} {S : Nat → Int32}
theorem kindO_b2 (hI : Inv S) {l : Nat} (hl : l < nv S 3) : ∀ k, k < 7 → ∀ v, kindO S l k = some v → v ≤ 133120 := by
  intro k hk v h
  unfold kindO at h
  have hlt : nv S 2 < 1024 := by have := hI.2.1.1.2; omega
  exact lst_lt (Inv_changeB hI hl (w := 0) (by decide) (Nat.zero_le _) (show k ≤ 6 by omega)) hlt h
theorem X_bestKind {l : Nat} (hX : XC σ 1 S) (hI : Inv S) (hl : l < nv S 3) (hk : ∀ σ', Wf σ σ' → K (some (.int (encM (fO (amU (kindO S l) 7))))) σ') : Rn 0 ev mK_bestKind [.ref 50, .int (nI l)] σ K := by
  have hc := CH1
  have hn10 := hI.1.2
  have hT := p2le _ hn10
  have hlt : nv S 2 < 1024 := by have := hI.2.1.1.2; omega
  refine Rn_V (by decide) rc2 rfl rfl ?_
  refine PW_blk okK_bestKind 0 rfl SpX_ok ?_
  simp only [wL0, wLc, true_and, w2, lg0, lgi, lgr, lgl, w35, kX50, rX50_0, w0, w1, w54_3, q40, q41, q42, q43, q44, Option.toList_some, Option.toList_none, List.cons_append, List.nil_append, w4, ls00, ls0i, ls0r, ls0l, lsi, lsr, lsl, Option.map_some, rX50_1, w33, CH_k hc, w54_2, w71]
  refine X_trait (w := 0) hc hX hI hl (by decide) ?_
  simp only [wL0, wLc, true_and, w2, lg0, lgi, lgr, lgl, w35, kX50, rX50_0, w0, w1, w54_3, q40, q41, q42, q43, q44, Option.toList_some, Option.toList_none, List.cons_append, List.nil_append, w4, ls00, ls0i, ls0r, ls0l, lsi, lsr, lsl, Option.map_some, rX50_1, w33, CH_k hc, w54_2, w71, x4 hX hI]
  refine X_explore hX hI hI.2.1.2 (fun σ1 hW1 _ _ hT1 => ?_)
  simp only [wL0, wLc, true_and, w2, lg0, lgi, lgr, lgl, w35, kX50, rX50_0, w0, w1, w54_3, q40, q41, q42, q43, q44, Option.toList_some, Option.toList_none, List.cons_append, List.nil_append, w4, ls00, ls0i, ls0r, ls0l, lsi, lsr, lsl, Option.map_some, rX50_1, w33, CH_k hc, w54_2, w71]
  have hX1 := Wf_X hW1 hX
  have key := lp_up (n := 7) (P := fun k => ∀ σ' x, W2 (1 + 2 + 0) σ σ' → σ'.1 (1 + 2 + 0) = upd (σ.1 (1 + 2 + 0)) l x → XC σ' 1 (upd S (tr l 0) x) → Tab σ' S (nv S 2) → (∃ n, n ≤ 6 ∧ x = nI n) → PW 0 ev mK_bestKind 34 [.ref 50, .int (nI l), .int (S (tr l 0)), .int (encM (fO (amU (kindO S l) k))), .int (encM (sO (amU (kindO S l) k))), .int (nI k)] [] σ' K) ?_ ?_ 0 (by decide) σ1 (S (tr l 0)) (W2_w W2_r hW1) ?_ ?_ hT1 ?_
  · exact key
  · intro σ' x hW h3 hX' _ ⟨n, hn, hx⟩
    subst hx
    have hIx := Inv_changeB hI hl (w := 0) (n := n) (by decide) (Nat.zero_le _) (show n ≤ 6 from hn)
    refine PW_blk okK_bestKind 1 rfl SpX_ok ?_
    simp only [wL0, wLc, true_and, w1, lg0, lgi, lgr, lgl, w0, w81]
    refine b3N (by decide) ?_
    refine PW_blk okK_bestKind 5 rfl SpX_ok ?_
    simp only [wL0, wLc, true_and, w2, lg0, lgi, lgr, lgl, w35, kX50, rX50_0, w0, w1, w54_4, q40, q41, q42, q43, q44, Option.toList_some, Option.toList_none, List.cons_append, List.nil_append, w9i, w9r, w84]
    refine X_putTrait (w := 0) hc hX' hIx (by rw [nv_ne (by unfold tr; omega)]; exact hl) (by decide) ?_
    simp only [wL0, wLc, true_and, w2, lg0, lgi, lgr, lgl, w35, kX50, rX50_0, w0, w1, w54_4, q40, q41, q42, q43, q44, Option.toList_some, Option.toList_none, List.cons_append, List.nil_append, w9i, w9r, w84]
    refine hk _ (W2_e hW ?_)
    rw [h3, fa_upd_twice]
    exact fa_upd_same (hX.2.2.2 l 0 hl (by decide))
  · intro k hk7 ih σ' x hW h3 hX' hTs ⟨n, hn, hx⟩
    subst hx
    have hIx := Inv_changeB hI hl (w := 0) (n := n) (by decide) (Nat.zero_le _) (show n ≤ 6 from hn)
    have hIk := Inv_changeB hI hl (w := 0) (n := k) (by decide) (Nat.zero_le _) (show k ≤ 6 by omega)
    have hX2 := XC_t (w := 0) (k := l) (v := nI k) (by decide) (by omega) hX'
    rw [fa_upd_twice] at hX2
    have n2 : nv (upd S (tr l 0) (nI k)) 2 = nv S 2 := nv_ne (by unfold tr; omega)
    have n3 : nv (upd S (tr l 0) (nI k)) 3 = nv S 3 := nv_ne (by unfold tr; omega)
    have ex4 := x4 hX2 hIk
    rw [n2] at ex4
    have hT2 : Tab (sr σ' (1 + 2 + 0) (upd (σ'.1 (1 + 2 + 0)) l (nI k))) (upd S (tr l 0) (nI k)) (nv S 2) := agM_Tab agM_0 (fun t ht => by
      rw [sr1n (by decide), sr1n (by decide), sr1n (by decide)]
      exact hTs t ht)
    refine PW_blk okK_bestKind 1 rfl SpX_ok ?_
    simp only [wL0, wLc, true_and, w1, lg0, lgi, lgr, lgl, w0, w81]
    refine b3Y (nI_lt hk7 (by decide)) ?_
    refine PW_blk okK_bestKind 2 rfl SpX_ok ?_
    simp only [wL0, wLc, true_and, w2, lg0, lgi, lgr, lgl, w35, kX50, rX50_0, w0, w1, w54_4, q40, q41, q42, q43, q44, Option.toList_some, Option.toList_none, List.cons_append, List.nil_append, w9i, w9r, rX50_1, w33, CH_k hc, w54_3, w4, ls00, ls0i, ls0r, ls0l, lsi, lsr, lsl, Option.map_some, w81]
    refine X_putTrait (w := 0) hc hX' hIx (by rw [nv_ne (by unfold tr; omega)]; exact hl) (by decide) ?_
    simp only [wL0, wLc, true_and, w2, lg0, lgi, lgr, lgl, w35, kX50, rX50_0, w0, w1, w54_4, q40, q41, q42, q43, q44, Option.toList_some, Option.toList_none, List.cons_append, List.nil_append, w9i, w9r, rX50_1, w33, CH_k hc, w54_3, w4, ls00, ls0i, ls0r, ls0l, lsi, lsr, lsl, Option.map_some, w81, ex4]
    refine X_settle (b := 0) hX2 hIk (by rw [n3]; exact hI.2.1.2) (by decide) hT2 (fun r _ => ?_)
    simp only [wL0, wLc, true_and, w2, lg0, lgi, lgr, lgl, w35, kX50, rX50_0, w0, w1, w54_4, q40, q41, q42, q43, q44, Option.toList_some, Option.toList_none, List.cons_append, List.nil_append, w9i, w9r, rX50_1, w33, CH_k hc, w54_3, w4, ls00, ls0i, ls0r, ls0l, lsi, lsr, lsl, Option.map_some, w81]
    rw [show lst (upd S (tr l 0) (nI k)) 0 (nv S 2) = kindO S l k from rfl]
    have hWf : Wf (sr σ' (1 + 2 + 0) (upd (σ'.1 (1 + 2 + 0)) l (nI k))) (sr (sr σ' (1 + 2 + 0) (upd (σ'.1 (1 + 2 + 0)) l (nI k))) 47 r) := Wf_sr (by decide) Wf_r
    have nx : ∀ x : List Value, x.take 6 = [.ref 50, .int (nI l), .int (S (tr l 0)), .int (encM (fO (amU (kindO S l) (k + 1)))), .int (encM (sO (amU (kindO S l) (k + 1)))), .int (nI k)] → PW 0 ev mK_bestKind 84 x [] (sr (sr σ' (1 + 2 + 0) (upd (σ'.1 (1 + 2 + 0)) l (nI k))) 47 r) K := by
      intro x hx
      refine PW_loc 6 ?_
      rw [hx]
      refine PW_blk okK_bestKind 4 rfl SpX_ok ?_
      simp only [wL0, wLc, true_and, w7, lg0, lgi, lgr, lgl, ls00, ls0i, ls0r, ls0l, lsi, lsr, lsl, Option.map_some, w70]
      rw [show (1 : Int32) = nI 1 from rfl, nI_add]
      refine ih _ (nI k) (W2_w (W2_q hW) hWf) ?_ (Wf_X hWf hX2) ?_ ⟨k, by omega, rfl⟩
      · rw [hWf _ (by decide), sr1, h3, fa_upd_twice]
      · intro t ht
        rw [sr1n (by decide), sr1n (by decide), sr1n (by decide), sr1n (by decide), sr1n (by decide), sr1n (by decide)]
        exact hTs t ht
    by_cases h : encM (kindO S l k) < encM (sO (amU (kindO S l) k))
    · refine b3Y h ?_
      obtain ⟨v, hv, e⟩ := amU_lt (kindO_b2 hI hl) hk7 h
      rw [e] at nx
      refine PW_blk okK_bestKind 3 rfl SpX_ok ?_
      simp only [wL0, wLc, true_and, w1, lg0, lgi, lgr, lgl, w4, ls00, ls0i, ls0r, ls0l, lsi, lsr, lsl, Option.map_some, w71]
      rw [hv]
      exact nx _ rfl
    · refine b3N h ?_
      rw [amU_nlt (kindO_b2 hI hl) hk7 h] at nx
      exact nx _ rfl
  · rw [hW1 _ (by decide)]
    exact (fa_upd_same (hX.2.2.2 l 0 hl (by decide))).symm
  · rw [fa_upd_same rfl]; exact hX1
  · have := (hI.2.2.2.2.2.2.2.2.1 l hl).1
    exact ⟨_, this.2, this.1⟩
theorem sparedO_b (hI : Inv S) : ∀ k, k < nv S 3 → ∀ v, sparedO S k = some v → v ≤ 133120 := by
  intro k hk v h
  unfold sparedO at h
  have hlt : nv S 2 < 1024 := by have := hI.2.1.1.2; omega
  have h6 := hI.2.2.2.2.2.1.2
  have hdl := dif_le (nv S 6) (2 ^ k)
  split at h
  · exact lst_lt (Inv_rule hI (w := 2) (n := dif (nv S 6) (2 ^ k)) (by decide) (show _ ≤ 2 ^ nv S 3 - 1 by omega)) hlt h
  · cases h
theorem X_bestSpared (hX : XC σ 1 S) (hI : Inv S) (hk : ∀ σ', Wf σ σ' → K (some (.int (encM (fO (amU (sparedO S) (nv S 3)))))) σ') : Rn 0 ev mK_bestSpared [.ref 50] σ K := by
  have hc := CH1
  have hn10 := hI.1.2
  have hT := p2le _ hn10
  have h6 := hI.2.2.2.2.2.1.2
  have e6 : S 6 = nI (nv S 6) := hI.2.2.2.2.2.1.1.1
  have hlt : nv S 2 < 1024 := by have := hI.2.1.1.2; omega
  refine Rn_V (by decide) rc2 rfl rfl ?_
  refine PW_blk okK_bestSpared 0 rfl SpX_ok ?_
  simp only [wL0, wLc, true_and, w2, lg0, lgi, lgr, lgl, w35, kX50, rX50_0, w54_1, q40, q41, q42, q43, q44, Option.toList_some, Option.toList_none, List.cons_append, List.nil_append, xp_C_goal, CH_e hc, w4, ls00, ls0i, ls0r, ls0l, lsi, lsr, lsl, Option.map_some, w0, rX50_1, w33, CH_k hc, w54_2, w71, xr2 hX, e6, x4 hX hI]
  refine X_explore hX hI hI.2.1.2 (fun σ1 hW1 _ _ hT1 => ?_)
  simp only [wL0, wLc, true_and, w2, lg0, lgi, lgr, lgl, w35, kX50, rX50_0, w54_1, q40, q41, q42, q43, q44, Option.toList_some, Option.toList_none, List.cons_append, List.nil_append, xp_C_goal, CH_e hc, w4, ls00, ls0i, ls0r, ls0l, lsi, lsr, lsl, Option.map_some, w0, rX50_1, w33, CH_k hc, w54_2, w71]
  have hX1 := Wf_X hW1 hX
  have key := lp_up (n := nv S 3) (P := fun k => ∀ σ' n, W2 (1 + 12) σ σ' → σ'.1 (1 + 12) = upd (σ.1 (1 + 12)) 2 (nI n) → XC σ' 1 (upd S 6 (nI n)) → Tab σ' S (nv S 2) → n ≤ nv S 6 → PW 0 ev mK_bestSpared 31 [.ref 50, .int (nI (nv S 6)), .int (encM (fO (amU (sparedO S) k))), .int (encM (sO (amU (sparedO S) k))), .int (nI k)] [] σ' K) ?_ ?_ 0 (Nat.zero_le _) σ1 (nv S 6) (W2_w W2_r hW1) ?_ ?_ hT1 (Nat.le_refl _)
  · exact key
  · intro σ' n hW h3 hX' _ hn
    have hIn := Inv_rule hI (w := 2) (n := n) (by decide) (show _ ≤ 2 ^ nv S 3 - 1 by omega)
    have ex3 := x3 hX' hIn
    rw [show nv (upd S (4 + 2) (nI n)) 3 = nv S 3 from nv_ne (by decide)] at ex3
    refine PW_blk okK_bestSpared 1 rfl SpX_ok ?_
    simp only [wL0, wLc, true_and, w1, lg0, lgi, lgr, lgl, w2, w35, kX50, rX50_0, w33, CH_k hc, w81, ex3]
    refine b3N (nI_nlt (Nat.le_refl _) (by omega)) ?_
    refine PW_blk okK_bestSpared 6 rfl SpX_ok ?_
    simp only [wL0, wLc, true_and, w2, lg0, lgi, lgr, lgl, w35, kX50, rX50_0, w0, w1, w54_3, q40, q41, q42, q43, q44, Option.toList_some, Option.toList_none, List.cons_append, List.nil_append, w9i, w9r, w84]
    refine X_putRule (w := 2) hc (by decide) ?_
    simp only [wL0, wLc, true_and, w2, lg0, lgi, lgr, lgl, w35, kX50, rX50_0, w0, w1, w54_3, q40, q41, q42, q43, q44, Option.toList_some, Option.toList_none, List.cons_append, List.nil_append, w9i, w9r, w84]
    refine hk _ (W2_e hW ?_)
    rw [h3, fa_upd_twice]
    exact fa_upd_same (by rw [xr2 hX]; exact e6)
  · intro k hk2 ih σ' n hW h3 hX' hTs hn
    have hIn := Inv_rule hI (w := 2) (n := n) (by decide) (show _ ≤ 2 ^ nv S 3 - 1 by omega)
    have ex3 := x3 hX' hIn
    rw [show nv (upd S (4 + 2) (nI n)) 3 = nv S 3 from nv_ne (by decide)] at ex3
    refine PW_blk okK_bestSpared 1 rfl SpX_ok ?_
    simp only [wL0, wLc, true_and, w1, lg0, lgi, lgr, lgl, w2, w35, kX50, rX50_0, w33, CH_k hc, w81, ex3]
    refine b3Y (nI_lt hk2 (by omega)) ?_
    refine PW_blk okK_bestSpared 2 rfl SpX_ok ?_
    simp only [wL0, wLc, true_and, w1, lg0, lgi, lgr, lgl, w20, w0, w16, w72]
    rw [bit1 (by omega) (by omega)]
    by_cases hb : (nv S 6).testBit k = true
    rotate_left
    · refine bN1 hb ?_
      have e : amU (sparedO S) (k + 1) = amU (sparedO S) k := amU_no (by unfold sparedO; rw [if_neg hb])
      rw [e] at ih
      refine PW_blk okK_bestSpared 5 rfl SpX_ok ?_
      simp only [wL0, wLc, true_and, w7, lg0, lgi, lgr, lgl, ls00, ls0i, ls0r, ls0l, lsi, lsr, lsl, Option.map_some, w70]
      rw [show (1 : Int32) = nI 1 from rfl, nI_add]
      exact ih σ' n hW h3 hX' hTs hn
    refine bY1 hb ?_
    have hdl := dif_le (nv S 6) (2 ^ k)
    have ew : sparedO S k = lst (upd S 6 (nI (dif (nv S 6) (2 ^ k)))) 0 (nv S 2) := by unfold sparedO; rw [if_pos hb]
    have hId := Inv_rule hI (w := 2) (n := dif (nv S 6) (2 ^ k)) (by decide) (show _ ≤ 2 ^ nv S 3 - 1 by omega)
    have hX2 := XC_r (w := 2) (v := nI (dif (nv S 6) (2 ^ k))) (by decide) hX'
    rw [show 4 + 2 = 6 from rfl, fa_upd_twice] at hX2
    have n2 : nv (upd S 6 (nI (dif (nv S 6) (2 ^ k)))) 2 = nv S 2 := nv_ne (by decide)
    have n3 : nv (upd S 6 (nI (dif (nv S 6) (2 ^ k)))) 3 = nv S 3 := nv_ne (by decide)
    have ex4 := x4 hX2 hId
    rw [n2] at ex4
    have hT2 : Tab (sr σ' (1 + 12) (upd (σ'.1 (1 + 12)) 2 (nI (dif (nv S 6) (2 ^ k))))) (upd S 6 (nI (dif (nv S 6) (2 ^ k)))) (nv S 2) := agM_Tab agM_6 (fun t ht => by
      rw [sr1n (by decide), sr1n (by decide), sr1n (by decide)]
      exact hTs t ht)
    refine PW_blk okK_bestSpared 3 rfl SpX_ok ?_
    simp only [wL0, wLc, true_and, w2, lg0, lgi, lgr, lgl, w35, kX50, rX50_0, w0, w1, w19, w18, w16, w54_3, q40, q41, q42, q43, q44, Option.toList_some, Option.toList_none, List.cons_append, List.nil_append, w9i, w9r, rX50_1, w33, CH_k hc, w4, ls00, ls0i, ls0r, ls0l, lsi, lsr, lsl, Option.map_some, w81, nI_sh1 k (by omega), dif_I]
    refine X_putRule (w := 2) hc (by decide) ?_
    simp only [wL0, wLc, true_and, w2, lg0, lgi, lgr, lgl, w35, kX50, rX50_0, w0, w1, w19, w18, w16, w54_3, q40, q41, q42, q43, q44, Option.toList_some, Option.toList_none, List.cons_append, List.nil_append, w9i, w9r, rX50_1, w33, CH_k hc, w4, ls00, ls0i, ls0r, ls0l, lsi, lsr, lsl, Option.map_some, w81, ex4]
    refine X_settle (b := 0) hX2 hId (by rw [n3]; exact hI.2.1.2) (by decide) hT2 (fun r _ => ?_)
    simp only [wL0, wLc, true_and, w2, lg0, lgi, lgr, lgl, w35, kX50, rX50_0, w0, w1, w19, w18, w16, w54_3, q40, q41, q42, q43, q44, Option.toList_some, Option.toList_none, List.cons_append, List.nil_append, w9i, w9r, rX50_1, w33, CH_k hc, w4, ls00, ls0i, ls0r, ls0l, lsi, lsr, lsl, Option.map_some, w81]
    rw [← ew]
    have hWf : Wf (sr σ' (1 + 12) (upd (σ'.1 (1 + 12)) 2 (nI (dif (nv S 6) (2 ^ k))))) (sr (sr σ' (1 + 12) (upd (σ'.1 (1 + 12)) 2 (nI (dif (nv S 6) (2 ^ k))))) 47 r) := Wf_sr (by decide) Wf_r
    have nx : ∀ x : List Value, x.take 5 = [.ref 50, .int (nI (nv S 6)), .int (encM (fO (amU (sparedO S) (k + 1)))), .int (encM (sO (amU (sparedO S) (k + 1)))), .int (nI k)] → PW 0 ev mK_bestSpared 98 x [] (sr (sr σ' (1 + 12) (upd (σ'.1 (1 + 12)) 2 (nI (dif (nv S 6) (2 ^ k))))) 47 r) K := by
      intro x hx
      refine PW_loc 5 ?_
      rw [hx]
      refine PW_blk okK_bestSpared 5 rfl SpX_ok ?_
      simp only [wL0, wLc, true_and, w7, lg0, lgi, lgr, lgl, ls00, ls0i, ls0r, ls0l, lsi, lsr, lsl, Option.map_some, w70]
      rw [show (1 : Int32) = nI 1 from rfl, nI_add]
      refine ih _ (dif (nv S 6) (2 ^ k)) (W2_w (W2_q hW) hWf) ?_ (Wf_X hWf hX2) ?_ hdl
      · rw [hWf _ (by decide), sr1, h3, fa_upd_twice]
      · intro t ht
        rw [sr1n (by decide), sr1n (by decide), sr1n (by decide), sr1n (by decide), sr1n (by decide), sr1n (by decide)]
        exact hTs t ht
    by_cases h : encM (sparedO S k) < encM (sO (amU (sparedO S) k))
    · refine b3Y h ?_
      obtain ⟨v, hv, e⟩ := amU_lt (sparedO_b hI) hk2 h
      rw [e] at nx
      refine PW_blk okK_bestSpared 4 rfl SpX_ok ?_
      simp only [wL0, wLc, true_and, w1, lg0, lgi, lgr, lgl, w4, ls00, ls0i, ls0r, ls0l, lsi, lsr, lsl, Option.map_some, w71]
      rw [hv]
      exact nx _ rfl
    · refine b3N h ?_
      rw [amU_nlt (sparedO_b hI) hk2 h] at nx
      exact nx _ rfl
  · rw [hW1 _ (by decide)]
    exact (fa_upd_same (by rw [xr2 hX]; exact e6)).symm
  · rw [← e6, fa_upd_same rfl]; exact hX1
theorem linkO_b2 (hI : Inv S) : ∀ p, p < 10 * nv S 3 → ∀ v, linkO S p = some v → v ≤ 133120 := by
  intro p hp v h
  have hn10 := hI.1.2
  unfold linkO at h
  have hlt : nv S 2 < 1024 := by have := hI.2.1.1.2; omega
  by_cases c : p / 10 ≠ p % 10 ∧ p % 10 < nv S 3 ∧ (nv S (tr (p / 10) 8)).testBit (p % 10) = false
  · rw [cif_y c] at h
    exact lst_lt (lk_Inv (a := p / 10) (b := p % 10) hI (by omega) (by omega)) hlt h
  · rw [cif_n c] at h
    cases h
theorem X_tryLink {a b : Nat} (hX : XC σ 1 S) (hI : Inv S) (ha : a < nv S 3) (hb : b < nv S 3) (hT : Tab σ S (nv S 2)) (h47 : ∀ t, t < 1024 → rch S (nv S 2) t → σ.1 47 t = encM (lst S 0 t)) (elk : linkO S (10 * a + b) = lst (lkS S a b) 0 (nv S 2)) (h2 : σ.1 50 2 = encM (fO (axU (linkO S) (10 * a + b)))) (h3 : σ.1 50 3 = encM (sO (axU (linkO S) (10 * a + b)))) (hk : ∀ σ', Wf σ σ' → Tab σ' S (nv S 2) → (∀ t, t < 1024 → rch S (nv S 2) t → σ'.1 47 t = encM (lst S 0 t)) → σ'.1 50 2 = encM (fO (axU (linkO S) (10 * a + b + 1))) → σ'.1 50 3 = encM (sO (axU (linkO S) (10 * a + b + 1))) → K none σ') : Rn 0 ev mK_tryLink [.ref 50, .int (nI a), .int (nI b)] σ K := by
  have hc := CH1
  have hn10 := hI.1.2
  have hfb := linkO_b2 hI
  have hp : 10 * a + b < 10 * nv S 3 := by omega
  refine Rn_V (by decide) rc2 rfl rfl ?_
  refine PW_blk okK_tryLink 0 rfl SpX_ok ?_
  simp only [wL0, wLc, true_and, w2, lg0, lgi, lgr, lgl, w35, kX50, rX50_1, rX50_0, w33, CH_k hc, w1, w54_4, q40, q41, q42, q43, q44, Option.toList_some, Option.toList_none, List.cons_append, List.nil_append, w4, ls00, ls0i, ls0r, ls0l, lsi, lsr, lsl, Option.map_some, w0, w78, x4 hX hI]
  refine X_settleLinked hX hI hI.2.1.2 ha hb hT h47 (fun r => ?_)
  simp only [wL0, wLc, true_and, w2, lg0, lgi, lgr, lgl, w35, kX50, rX50_1, rX50_0, w33, CH_k hc, w1, w54_4, q40, q41, q42, q43, q44, Option.toList_some, Option.toList_none, List.cons_append, List.nil_append, w4, ls00, ls0i, ls0r, ls0l, lsi, lsr, lsl, Option.map_some, w0, w78]
  rw [← elk]
  have hWr : Wf σ (sr σ 48 r) := Wf_sr (by decide) Wf_r
  have hTr : ∀ q, Tab (sr (sr σ 48 r) 50 q) S (nv S 2) := fun q t ht => by
    rw [sr1n (by decide), sr1n (by decide), sr1n (by decide), sr1n (by decide), sr1n (by decide), sr1n (by decide)]
    exact hT t ht
  have h47r : ∀ q, ∀ t, t < 1024 → rch S (nv S 2) t → (sr (sr σ 48 r) 50 q).1 47 t = encM (lst S 0 t) := fun q t ht h => by
    rw [sr1n (by decide), sr1n (by decide)]
    exact h47 t ht h
  have r50 : (sr σ 48 r).1 50 = σ.1 50 := sr1n (by decide)
  have quit : axU (linkO S) (10 * a + b + 1) = axU (linkO S) (10 * a + b) → ∀ x, PW 0 ev mK_tryLink 55 [.ref 50, .int (nI a), .int (nI b), .int x] [] (sr σ 48 r) K := by
    intro e x
    refine PW_blk okK_tryLink 4 rfl SpX_ok ?_
    simp only [wL0, w87]
    have es : sr σ 48 r = sr (sr σ 48 r) 50 (σ.1 50) := (sr_eq r50.symm).symm
    rw [es]
    refine hk _ (Wf_sr (by decide) hWr) (hTr _) (h47r _) ?_ ?_
    · rw [sr1, e]; exact h2
    · rw [sr1, e]; exact h3
  cases ev2 : linkO S (10 * a + b) with
  | none =>
    refine b2Y rfl ?_
    exact quit (axU_no ev2) _
  | some v =>
    have hv := hfb _ hp v ev2
    refine b2N (encM_ne (by omega)) ?_
    rw [show encM (some v) = nI v from rfl]
    have take : (encM (sO (axU (linkO S) (10 * a + b))) = 2147483647 ∨ encM (sO (axU (linkO S) (10 * a + b))) < nI v) → PW 0 ev mK_tryLink 40 [.ref 50, .int (nI a), .int (nI b), .int (nI v)] [] (sr σ 48 r) K := by
      intro z
      have e := axU_y hfb hp ev2 z
      have ep : (10 : Int32) * nI a + nI b = nI (10 * a + b) := by rw [show (10 : Int32) = nI 10 from rfl, pk_mul, nI_add]
      refine PW_blk okK_tryLink 3 rfl SpX_ok ?_
      simp only [wL0, wLc, true_and, w2, lg0, lgi, lgr, lgl, w1, w36, kX50, w0, w13, w11, w71, si_is, sr1, sr_sr, ep]
      refine PW_blk okK_tryLink 4 rfl SpX_ok ?_
      simp only [wL0, w87]
      refine hk _ (Wf_sr (by decide) hWr) (hTr _) (h47r _) ?_ ?_
      · rw [sr1, updS, e]; rfl
      · rw [sr1, updN (by decide), updS, e]; rfl
    refine PW_blk okK_tryLink 1 rfl SpX_ok ?_
    simp only [wL0, wLc, true_and, w2, lg0, lgi, lgr, lgl, w33, kX50, w0, w78, r50, h3]
    by_cases c1 : encM (sO (axU (linkO S) (10 * a + b))) = 2147483647
    · exact b2Y c1 (take (Or.inl c1))
    refine b2N c1 ?_
    refine PW_blk okK_tryLink 2 rfl SpX_ok ?_
    simp only [wL0, wLc, true_and, w1, lg0, lgi, lgr, lgl, w2, w33, kX50, w83, r50, h3]
    by_cases c2 : encM (sO (axU (linkO S) (10 * a + b))) < nI v
    · exact b3Y c2 (take (Or.inr c2))
    · exact b3N c2 (quit (axU_n hfb hp ev2 c1 c2) _)
theorem X_findLink (hX : XC σ 1 S) (hI : Inv S) (hk : ∀ σ', Wf σ σ' → σ'.1 50 2 = encM (fO (axU (linkO S) (10 * nv S 3))) → σ'.1 50 3 = encM (sO (axU (linkO S) (10 * nv S 3))) → K none σ') : Rn 0 ev mK_findLink [.ref 50] σ K := by
  have hc := CH1
  have hn10 := hI.1.2
  have hT := p2le _ hn10
  have hlt : nv S 2 < 1024 := by have := hI.2.1.1.2; omega
  refine Rn_V (by decide) rc2 rfl rfl ?_
  have hW0 : Wf σ (sr (sr σ 50 (upd (σ.1 50) 2 2147483647)) 50 (upd (upd (σ.1 50) 2 2147483647) 3 2147483647)) := Wf_sr (by decide) (Wf_sr (by decide) Wf_r)
  have hX0 := Wf_X hW0 hX
  have ex4 := x4 hX0 hI
  rw [sr_sr] at hW0 hX0 ex4
  refine PW_blk okK_findLink 0 rfl SpX_ok ?_
  simp only [wL0, wLc, true_and, w2, lg0, lgi, lgr, lgl, w0, w36, kX50, w35, rX50_1, rX50_0, w33, CH_k hc, w54_3, q40, q41, q42, q43, q44, Option.toList_some, Option.toList_none, List.cons_append, List.nil_append, w9i, w9r, w4, ls00, ls0i, ls0r, ls0l, lsi, lsr, lsl, Option.map_some, w71, si_is, sr1, sr_sr, ex4]
  refine X_leastFrom (b := 0) hX0 hI hI.2.1.2 (by decide) (fun σ1 hW1 _ w50 hT1 h47 => ?_)
  simp only [wL0, wLc, true_and, w2, lg0, lgi, lgr, lgl, w0, w36, kX50, w35, rX50_1, rX50_0, w33, CH_k hc, w54_3, q40, q41, q42, q43, q44, Option.toList_some, Option.toList_none, List.cons_append, List.nil_append, w9i, w9r, w4, ls00, ls0i, ls0r, ls0l, lsi, lsr, lsl, Option.map_some, w71]
  have hW1 := Wf_t hW0 hW1
  rw [sr1] at w50
  have one : ∀ a b σ', a < nv S 3 → b < nv S 3 → Wf σ σ' → Tab σ' S (nv S 2) → (∀ t, t < 1024 → rch S (nv S 2) t → σ'.1 47 t = encM (lst S 0 t)) → σ'.1 50 2 = encM (fO (axU (linkO S) (10 * a + b))) → σ'.1 50 3 = encM (sO (axU (linkO S) (10 * a + b))) → (∀ σ2, Wf σ σ2 → Tab σ2 S (nv S 2) → (∀ t, t < 1024 → rch S (nv S 2) t → σ2.1 47 t = encM (lst S 0 t)) → σ2.1 50 2 = encM (fO (axU (linkO S) (10 * a + b + 1))) → σ2.1 50 3 = encM (sO (axU (linkO S) (10 * a + b + 1))) → PW 0 ev mK_findLink 82 [.ref 50, .int (nI a), .int (nI b)] [] σ2 K) → PW 0 ev mK_findLink 54 [.ref 50, .int (nI a), .int (nI b)] [] σ' K := by
    intro a b σ' ha hb hW hTs h47s h2 h3 next
    have hX' := Wf_X hW hX
    have hdv : (10 * a + b) / 10 = a := by omega
    have hmd : (10 * a + b) % 10 = b := by omega
    have elk : linkO S (10 * a + b) = cif (a ≠ b ∧ b < nv S 3 ∧ (nv S (tr a 8)).testBit b = false) (lst (lkS S a b) 0 (nv S 2)) none := by
      unfold linkO lkS
      rw [hdv, hmd]
    have skip : linkO S (10 * a + b) = none → PW 0 ev mK_findLink 82 [.ref 50, .int (nI a), .int (nI b)] [] σ' K := by
      intro z
      refine next σ' hW hTs h47s ?_ ?_
      · rw [axU_no z]; exact h2
      · rw [axU_no z]; exact h3
    refine PW_blk okK_findLink 4 rfl SpX_ok ?_
    simp only [wL0, wLc, true_and, w1, lg0, lgi, lgr, lgl, w78]
    rw [nI_eq_iff (by omega) (by omega)]
    by_cases c1 : a = b
    · refine b2Y c1 (skip ?_)
      rw [elk, cif_n (fun z => z.1 c1)]
    refine b2N c1 ?_
    have h8 := (hI.2.2.2.2.2.2.2.2.1 a ha).2.2.2.2.2.2.2.2.1
    have h8l := h8.2
    refine PW_blk okK_findLink 5 rfl SpX_ok ?_
    simp only [wL0, wLc, true_and, w2, lg0, lgi, lgr, lgl, w35, kX50, rX50_0, w0, w1, w54_3, q40, q41, q42, q43, q44, Option.toList_some, Option.toList_none, List.cons_append, List.nil_append, w20, w16, w73]
    refine X_trait (w := 8) hc hX' hI ha (by decide) ?_
    simp only [wL0, wLc, true_and, w2, lg0, lgi, lgr, lgl, w35, kX50, rX50_0, w0, w1, w54_3, q40, q41, q42, q43, q44, Option.toList_some, Option.toList_none, List.cons_append, List.nil_append, w20, w16, w73]
    rw [h8.1, bit1 (by omega) (by omega)]
    by_cases c2 : (nv S (tr a 8)).testBit b = true
    · refine dY1 c2 (skip ?_)
      rw [elk, cif_n (fun z => by rw [c2] at z; exact absurd z.2.2 (by decide))]
    refine dN1 c2 ?_
    rw [cif_y ⟨c1, hb, by simpa using c2⟩] at elk
    have hfb := linkO_b2 hI
    have hp : 10 * a + b < 10 * nv S 3 := by omega
    refine PW_blk okK_findLink 6 rfl SpX_ok ?_
    simp only [wL0, wLc, true_and, w2, lg0, lgi, lgr, lgl, w1, w54_3, q40, q41, q42, q43, q44, Option.toList_some, Option.toList_none, List.cons_append, List.nil_append, w71]
    refine X_tryLink hX' hI ha hb hTs h47s elk h2 h3 (fun σ2 hW2 g1 g2 g3 g4 => ?_)
    simp only [wL0, wLc, true_and, w2, lg0, lgi, lgr, lgl, w1, w54_3, q40, q41, q42, q43, q44, Option.toList_some, Option.toList_none, List.cons_append, List.nil_append, w71]
    exact next σ2 (Wf_t hW hW2) g1 g2 g3 g4
  have lkn : ∀ p, p < 10 * nv S 3 → ¬ p % 10 < nv S 3 → linkO S p = none := fun p _ h => by
    unfold linkO
    rw [cif_n (fun z => h z.2.1)]
  have key := lp_up (n := nv S 3) (P := fun a => ∀ x : List Value, x.take 2 = [.ref 50, .int (nI a)] → ∀ σ', Wf σ σ' → Tab σ' S (nv S 2) → (∀ t, t < 1024 → rch S (nv S 2) t → σ'.1 47 t = encM (lst S 0 t)) → σ'.1 50 2 = encM (fO (axU (linkO S) (10 * a))) → σ'.1 50 3 = encM (sO (axU (linkO S) (10 * a))) → PW 0 ev mK_findLink 30 x [] σ' K) ?_ ?_ 0 (Nat.zero_le _)
  · refine key _ rfl σ1 hW1 hT1 h47 ?_ ?_
    · rw [w50, updN (by decide), updS]; rfl
    · rw [w50, updS]; rfl
  · intro x hx σ' hW _ _ h2 h3
    refine PW_loc 2 ?_
    rw [hx]
    refine PW_blk okK_findLink 1 rfl SpX_ok ?_
    simp only [wL0, wLc, true_and, w1, lg0, lgi, lgr, lgl, w2, w35, kX50, rX50_0, w33, CH_k hc, w81, x3 (Wf_X hW hX) hI]
    refine b3N (nI_nlt (Nat.le_refl _) (by omega)) ?_
    refine PW_blk okK_findLink 9 rfl SpX_ok ?_
    simp only [wL0, w87]
    exact hk σ' hW h2 h3
  · intro a ha ih x hx σ' hW hTs h47s h2 h3
    refine PW_loc 2 ?_
    rw [hx]
    refine PW_blk okK_findLink 1 rfl SpX_ok ?_
    simp only [wL0, wLc, true_and, w1, lg0, lgi, lgr, lgl, w2, w35, kX50, rX50_0, w33, CH_k hc, w81, x3 (Wf_X hW hX) hI]
    refine b3Y (nI_lt ha (by omega)) ?_
    refine PW_blk okK_findLink 2 rfl SpX_ok ?_
    simp only [wL0, wLc, true_and, w0, w4, ls00, ls0i, ls0r, ls0l, lsi, lsr, lsl, Option.map_some, w71]
    have k2 := lp_up (n := nv S 3) (P := fun b => ∀ σ', Wf σ σ' → Tab σ' S (nv S 2) → (∀ t, t < 1024 → rch S (nv S 2) t → σ'.1 47 t = encM (lst S 0 t)) → σ'.1 50 2 = encM (fO (axU (linkO S) (10 * a + b))) → σ'.1 50 3 = encM (sO (axU (linkO S) (10 * a + b))) → PW 0 ev mK_findLink 43 [.ref 50, .int (nI a), .int (nI b)] [] σ' K) ?_ ?_ 0 (Nat.zero_le _) σ' hW hTs h47s h2 h3
    · exact k2
    · intro σ' hW hTs h47s h2 h3
      have hend : ∀ m, nv S 3 ≤ m → m ≤ 10 → axU (linkO S) (10 * a + m) = axU (linkO S) (10 * a + nv S 3) := by
        intro m
        induction m with
        | zero => intro h _; rw [show nv S 3 = 0 by omega]
        | succ m ihm =>
          intro h h10
          by_cases e : nv S 3 = m + 1
          · rw [e]
          · rw [← ihm (by omega) (by omega), ← Nat.add_assoc]
            exact axU_no (lkn _ (by omega) (by omega))
      have e10 := hend 10 hn10 (Nat.le_refl _)
      rw [← e10, show 10 * a + 10 = 10 * (a + 1) by omega] at h2 h3
      refine PW_blk okK_findLink 3 rfl SpX_ok ?_
      simp only [wL0, wLc, true_and, w1, lg0, lgi, lgr, lgl, w2, w35, kX50, rX50_0, w33, CH_k hc, w81, x3 (Wf_X hW hX) hI]
      refine b3N (nI_nlt (Nat.le_refl _) (by omega)) ?_
      refine PW_blk okK_findLink 8 rfl SpX_ok ?_
      simp only [wL0, wLc, true_and, w7, lg0, lgi, lgr, lgl, ls00, ls0i, ls0r, ls0l, lsi, lsr, lsl, Option.map_some, w70]
      rw [show (1 : Int32) = nI 1 from rfl, nI_add]
      exact ih _ rfl σ' hW hTs h47s h2 h3
    · intro b hb ih2 σ' hW hTs h47s h2 h3
      refine PW_blk okK_findLink 3 rfl SpX_ok ?_
      simp only [wL0, wLc, true_and, w1, lg0, lgi, lgr, lgl, w2, w35, kX50, rX50_0, w33, CH_k hc, w81, x3 (Wf_X hW hX) hI]
      refine b3Y (nI_lt hb (by omega)) ?_
      refine one a b σ' ha hb hW hTs h47s h2 h3 (fun σ2 g1 g2 g3 g4 g5 => ?_)
      refine PW_blk okK_findLink 7 rfl SpX_ok ?_
      simp only [wL0, wLc, true_and, w7, lg0, lgi, lgr, lgl, ls00, ls0i, ls0r, ls0l, lsi, lsr, lsl, Option.map_some, w70]
      rw [show (1 : Int32) = nI 1 from rfl, nI_add]
      exact ih2 σ2 g1 g2 g3 g4 g5
theorem X_none1 {r : Option (Nat × Nat)} (hr : ∀ b l, r = some (b, l) → b ≤ 133120 ∧ l ≤ 133120) : (∀ v, fO r = some v → v ≤ 200000) ∧ (∀ v, sO r = some v → v ≤ 200000) := by
  cases r with
  | none => exact ⟨fun v h => (by cases h), fun v h => (by cases h)⟩
  | some q =>
    obtain ⟨b, l⟩ := q
    obtain ⟨h1, h2⟩ := hr b l rfl
    exact ⟨fun v h => (by cases h; omega), fun v h => (by cases h; omega)⟩
theorem X_tools (hX : XC σ 1 S) (hI : Inv S) (h1 : toolsU S 16 = none → ∀ σ', Wf σ σ' → K (some (.int (-1000004))) (noX σ' 3)) (h2 : ∀ b, toolsU S 16 = some b → ∀ σ', Wf σ σ' → K (some (.int (nI b))) σ') : Rn 0 ev mX_tools [.ref 0] σ K := by
  refine Rn_V (by decide) rc5 rfl rfl ?_
  refine PW_blk okX_tools 0 rfl SpX_ok ?_
  simp only [wL0, wLc, true_and, w2, lg0, lgi, lgr, lgl, w35, kX0, rX0_4, w54_1, q40, q41, q42, q43, q44, Option.toList_some, Option.toList_none, List.cons_append, List.nil_append, w54_2, w84]
  refine X_fewestTools hX hI (fun σ' hW => ?_)
  simp only [wL0, wLc, true_and, w2, lg0, lgi, lgr, lgl, w35, kX0, rX0_4, w54_1, q40, q41, q42, q43, q44, Option.toList_some, Option.toList_none, List.cons_append, List.nil_append, w54_2, w84]
  refine X_orNone (fun v hv => by have := toolsU_b _ v hv; omega) (fun e => ?_) (fun v e => ?_)
  · simp only [wL0, wLc, true_and, w2, lg0, lgi, lgr, lgl, w35, kX0, rX0_4, w54_1, q40, q41, q42, q43, q44, Option.toList_some, Option.toList_none, List.cons_append, List.nil_append, w54_2, w84]
    exact h1 e _ hW
  · simp only [wL0, wLc, true_and, w2, lg0, lgi, lgr, lgl, w35, kX0, rX0_4, w54_1, q40, q41, q42, q43, q44, Option.toList_some, Option.toList_none, List.cons_append, List.nil_append, w54_2, w84]
    exact h2 v e _ hW
theorem X_spare (hX : XC σ 1 S) (hI : Inv S) (h1 : (∀ v, v ≤ 40 → ¬ can (upd S 5 (nI v))) → ∀ σ', Wf σ σ' → K (some (.int (-1000004))) (noX σ' 3)) (h2 : ∀ v, v ≤ 40 → can (upd S 5 (nI v)) → (∀ u, u < v → ¬ can (upd S 5 (nI u))) → ∀ σ', Wf σ σ' → K (some (.int (nI v))) σ') : Rn 0 ev mX_spare [.ref 0] σ K := by
  refine Rn_V (by decide) rc5 rfl rfl ?_
  refine PW_blk okX_spare 0 rfl SpX_ok ?_
  simp only [wL0, wLc, true_and, w2, lg0, lgi, lgr, lgl, w35, kX0, rX0_4, w54_1, q40, q41, q42, q43, q44, Option.toList_some, Option.toList_none, List.cons_append, List.nil_append, w54_2, w84]
  refine X_leastSpare hX hI (fun z σ' hW => ?_) (fun v a b d σ' hW => ?_)
  · simp only [wL0, wLc, true_and, w2, lg0, lgi, lgr, lgl, w35, kX0, rX0_4, w54_1, q40, q41, q42, q43, q44, Option.toList_some, Option.toList_none, List.cons_append, List.nil_append, w54_2, w84]
    refine X_orNone (fun v hv => by cases hv) (fun e => ?_) (fun v e => by cases e)
    simp only [wL0, wLc, true_and, w2, lg0, lgi, lgr, lgl, w35, kX0, rX0_4, w54_1, q40, q41, q42, q43, q44, Option.toList_some, Option.toList_none, List.cons_append, List.nil_append, w54_2, w84]
    exact h1 z _ hW
  · simp only [wL0, wLc, true_and, w2, lg0, lgi, lgr, lgl, w35, kX0, rX0_4, w54_1, q40, q41, q42, q43, q44, Option.toList_some, Option.toList_none, List.cons_append, List.nil_append, w54_2, w84]
    refine X_orNone (fun v' hv => by cases hv; omega) (fun e => by cases e) (fun v' e => ?_)
    cases e
    simp only [wL0, wLc, true_and, w2, lg0, lgi, lgr, lgl, w35, kX0, rX0_4, w54_1, q40, q41, q42, q43, q44, Option.toList_some, Option.toList_none, List.cons_append, List.nil_append, w54_2, w84]
    exact h2 v a b d _ hW
theorem X_wire (hX : XC σ 1 S) (hI : Inv S) (h1 : amU (wireO S) (nv S 3) = none → ∀ σ', Wf σ σ' → K (some (.int (-1000004))) (noX σ' 3)) (h2 : ∀ b l, amU (wireO S) (nv S 3) = some (b, l) → ∀ σ', Wf σ σ' → K (some (.int (nI b))) σ') : Rn 0 ev mX_wire [.ref 0] σ K := by
  have hn10 := hI.1.2
  have hb := X_none1 (r := amU (wireO S) (nv S 3)) (fun b l h => by have := amU_bd (wireO_b hI) _ (Nat.le_refl _) b l h; omega)
  refine Rn_V (by decide) rc5 rfl rfl ?_
  refine PW_blk okX_wire 0 rfl SpX_ok ?_
  simp only [wL0, wLc, true_and, w2, lg0, lgi, lgr, lgl, w35, kX0, rX0_4, w54_1, q40, q41, q42, q43, q44, Option.toList_some, Option.toList_none, List.cons_append, List.nil_append, w54_2, w84]
  refine X_bestWire hX hI (fun σ' hW => ?_)
  simp only [wL0, wLc, true_and, w2, lg0, lgi, lgr, lgl, w35, kX0, rX0_4, w54_1, q40, q41, q42, q43, q44, Option.toList_some, Option.toList_none, List.cons_append, List.nil_append, w54_2, w84]
  refine X_orNone hb.1 (fun e => ?_) (fun v e => ?_)
  · simp only [wL0, wLc, true_and, w2, lg0, lgi, lgr, lgl, w35, kX0, rX0_4, w54_1, q40, q41, q42, q43, q44, Option.toList_some, Option.toList_none, List.cons_append, List.nil_append, w54_2, w84]
    refine h1 ?_ _ hW
    cases e2 : amU (wireO S) (nv S 3) with
    | none => rfl
    | some q => rw [e2] at e; cases e
  · simp only [wL0, wLc, true_and, w2, lg0, lgi, lgr, lgl, w35, kX0, rX0_4, w54_1, q40, q41, q42, q43, q44, Option.toList_some, Option.toList_none, List.cons_append, List.nil_append, w54_2, w84]
    cases e2 : amU (wireO S) (nv S 3) with
    | none => rw [e2] at e; cases e
    | some q => rw [e2] at e; cases e; exact h2 q.1 q.2 e2 _ hW
theorem X_kindFor {l : Int32} (hX : XC σ 1 S) (hI : Inv S) (h0 : ¬ hasL S l → K (some (.int (-1000001))) (noX σ 0)) (h1 : ∀ k, k < nv S 3 → l = nI k → amU (kindO S k) 7 = none → ∀ σ', Wf σ σ' → K (some (.int (-1000004))) (noX σ' 3)) (h2 : ∀ k b c, k < nv S 3 → l = nI k → amU (kindO S k) 7 = some (b, c) → ∀ σ', Wf σ σ' → K (some (.int (nI b))) σ') : Rn 0 ev mX_kindFor [.ref 0, .int l] σ K := by
  have hc := CH1
  have hn10 := hI.1.2
  refine Rn_V (by decide) rc5 rfl rfl ?_
  refine PW_blk okX_kindFor 0 rfl SpX_ok ?_
  simp only [wL0, wLc, true_and, w2, lg0, lgi, lgr, lgl, w35, kX0, rX0_0, w1, w54_2, q40, q41, q42, q43, q44, Option.toList_some, Option.toList_none, List.cons_append, List.nil_append, xp_C_has, CH_e hc, w73, x3 hX hI]
  by_cases hl : hasL S l
  rotate_left
  · refine dN (hasS' hn10 hl) ?_
    refine PW_blk okX_kindFor 1 rfl SpX_ok ?_
    simp only [wL0, wLc, true_and, w2, lg0, lgi, lgr, lgl, w0, w54_2, q40, q41, q42, q43, q44, Option.toList_some, Option.toList_none, List.cons_append, List.nil_append, xp_X_tell, tl0, tl1, tl2, tl3, tl4, tl5, tl6, tq0, tq1, tq2, tq3, tq4, tq5, tq6, w84]
    exact h0 hl
  refine dY (hasS hn10 hl) ?_
  obtain ⟨k, hkn, rfl⟩ := hl
  have hb := X_none1 (r := amU (kindO S k) 7) (fun b l h => by have := amU_bd (kindO_b2 hI hkn) _ (Nat.le_refl _) b l h; omega)
  refine PW_blk okX_kindFor 2 rfl SpX_ok ?_
  simp only [wL0, wLc, true_and, w2, lg0, lgi, lgr, lgl, w35, kX0, rX0_4, w1, w54_2, q40, q41, q42, q43, q44, Option.toList_some, Option.toList_none, List.cons_append, List.nil_append, w84]
  refine X_bestKind hX hI hkn (fun σ' hW => ?_)
  simp only [wL0, wLc, true_and, w2, lg0, lgi, lgr, lgl, w35, kX0, rX0_4, w1, w54_2, q40, q41, q42, q43, q44, Option.toList_some, Option.toList_none, List.cons_append, List.nil_append, w84]
  refine X_orNone hb.1 (fun e => ?_) (fun v e => ?_)
  · simp only [wL0, wLc, true_and, w2, lg0, lgi, lgr, lgl, w35, kX0, rX0_4, w1, w54_2, q40, q41, q42, q43, q44, Option.toList_some, Option.toList_none, List.cons_append, List.nil_append, w84]
    refine h1 k hkn rfl ?_ _ hW
    cases e2 : amU (kindO S k) 7 with
    | none => rfl
    | some q => rw [e2] at e; cases e
  · simp only [wL0, wLc, true_and, w2, lg0, lgi, lgr, lgl, w35, kX0, rX0_4, w1, w54_2, q40, q41, q42, q43, q44, Option.toList_some, Option.toList_none, List.cons_append, List.nil_append, w84]
    cases e2 : amU (kindO S k) 7 with
    | none => rw [e2] at e; cases e
    | some q => rw [e2] at e; cases e; exact h2 k q.1 q.2 hkn rfl e2 _ hW
theorem X_spared (hX : XC σ 1 S) (hI : Inv S) (h1 : amU (sparedO S) (nv S 3) = none → ∀ σ', Wf σ σ' → K (some (.int (-1000004))) (noX σ' 3)) (h2 : ∀ b c, amU (sparedO S) (nv S 3) = some (b, c) → ∀ σ', Wf σ σ' → K (some (.int (nI b))) σ') : Rn 0 ev mX_spared [.ref 0] σ K := by
  have hn10 := hI.1.2
  have hb := X_none1 (r := amU (sparedO S) (nv S 3)) (fun b l h => by have := amU_bd (sparedO_b hI) _ (Nat.le_refl _) b l h; omega)
  refine Rn_V (by decide) rc5 rfl rfl ?_
  refine PW_blk okX_spared 0 rfl SpX_ok ?_
  simp only [wL0, wLc, true_and, w2, lg0, lgi, lgr, lgl, w35, kX0, rX0_4, w54_1, q40, q41, q42, q43, q44, Option.toList_some, Option.toList_none, List.cons_append, List.nil_append, w54_2, w84]
  refine X_bestSpared hX hI (fun σ' hW => ?_)
  simp only [wL0, wLc, true_and, w2, lg0, lgi, lgr, lgl, w35, kX0, rX0_4, w54_1, q40, q41, q42, q43, q44, Option.toList_some, Option.toList_none, List.cons_append, List.nil_append, w54_2, w84]
  refine X_orNone hb.1 (fun e => ?_) (fun v e => ?_)
  · simp only [wL0, wLc, true_and, w2, lg0, lgi, lgr, lgl, w35, kX0, rX0_4, w54_1, q40, q41, q42, q43, q44, Option.toList_some, Option.toList_none, List.cons_append, List.nil_append, w54_2, w84]
    refine h1 ?_ _ hW
    cases e2 : amU (sparedO S) (nv S 3) with
    | none => rfl
    | some q => rw [e2] at e; cases e
  · simp only [wL0, wLc, true_and, w2, lg0, lgi, lgr, lgl, w35, kX0, rX0_4, w54_1, q40, q41, q42, q43, q44, Option.toList_some, Option.toList_none, List.cons_append, List.nil_append, w54_2, w84]
    cases e2 : amU (sparedO S) (nv S 3) with
    | none => rw [e2] at e; cases e
    | some q => rw [e2] at e; cases e; exact h2 q.1 q.2 e2 _ hW
theorem X_link (hX : XC σ 1 S) (hI : Inv S) (h1 : axU (linkO S) (10 * nv S 3) = none → ∀ σ', Wf σ σ' → K (some (.int (-1000004))) (noX σ' 3)) (h2 : ∀ b c, axU (linkO S) (10 * nv S 3) = some (b, c) → ∀ σ', Wf σ σ' → K (some (.int (nI b))) σ') : Rn 0 ev mX_link [.ref 0] σ K := by
  have hn10 := hI.1.2
  have hb := X_none1 (r := axU (linkO S) (10 * nv S 3)) (fun b l h => by have := axU_bd (linkO_b2 hI) _ (Nat.le_refl _) b l h; omega)
  refine Rn_V (by decide) rc5 rfl rfl ?_
  refine PW_blk okX_link 0 rfl SpX_ok ?_
  simp only [wL0, wLc, true_and, w2, lg0, lgi, lgr, lgl, w35, kX0, rX0_4, w54_1, q40, q41, q42, q43, q44, Option.toList_some, Option.toList_none, List.cons_append, List.nil_append, xp_K_linkPair, w54_2, w84]
  refine X_findLink hX hI (fun σ' hW g2 g3 => ?_)
  simp only [wL0, wLc, true_and, w2, lg0, lgi, lgr, lgl, w35, kX0, rX0_4, w54_1, q40, q41, q42, q43, q44, Option.toList_some, Option.toList_none, List.cons_append, List.nil_append, xp_K_linkPair, w54_2, w84, g2]
  refine X_orNone hb.1 (fun e => ?_) (fun v e => ?_)
  · simp only [wL0, wLc, true_and, w2, lg0, lgi, lgr, lgl, w35, kX0, rX0_4, w54_1, q40, q41, q42, q43, q44, Option.toList_some, Option.toList_none, List.cons_append, List.nil_append, xp_K_linkPair, w54_2, w84]
    refine h1 ?_ _ hW
    cases e2 : axU (linkO S) (10 * nv S 3) with
    | none => rfl
    | some q => rw [e2] at e; cases e
  · simp only [wL0, wLc, true_and, w2, lg0, lgi, lgr, lgl, w35, kX0, rX0_4, w54_1, q40, q41, q42, q43, q44, Option.toList_some, Option.toList_none, List.cons_append, List.nil_append, xp_K_linkPair, w54_2, w84]
    cases e2 : axU (linkO S) (10 * nv S 3) with
    | none => rw [e2] at e; cases e
    | some q => rw [e2] at e; cases e; exact h2 q.1 q.2 e2 _ hW
theorem X_linked (hX : XC σ 1 S) (hI : Inv S) (h1 : axU (linkO S) (10 * nv S 3) = none → ∀ σ', Wf σ σ' → K (some (.int (-1000004))) (noX σ' 3)) (h2 : ∀ b c, axU (linkO S) (10 * nv S 3) = some (b, c) → ∀ σ', Wf σ σ' → K (some (.int (nI c))) σ') : Rn 0 ev mX_linked [.ref 0] σ K := by
  have hn10 := hI.1.2
  have hb := X_none1 (r := axU (linkO S) (10 * nv S 3)) (fun b l h => by have := axU_bd (linkO_b2 hI) _ (Nat.le_refl _) b l h; omega)
  refine Rn_V (by decide) rc5 rfl rfl ?_
  refine PW_blk okX_linked 0 rfl SpX_ok ?_
  simp only [wL0, wLc, true_and, w2, lg0, lgi, lgr, lgl, w35, kX0, rX0_4, w54_1, q40, q41, q42, q43, q44, Option.toList_some, Option.toList_none, List.cons_append, List.nil_append, xp_K_linkTime, w54_2, w84]
  refine X_findLink hX hI (fun σ' hW g2 g3 => ?_)
  simp only [wL0, wLc, true_and, w2, lg0, lgi, lgr, lgl, w35, kX0, rX0_4, w54_1, q40, q41, q42, q43, q44, Option.toList_some, Option.toList_none, List.cons_append, List.nil_append, xp_K_linkTime, w54_2, w84, g3]
  refine X_orNone hb.2 (fun e => ?_) (fun v e => ?_)
  · simp only [wL0, wLc, true_and, w2, lg0, lgi, lgr, lgl, w35, kX0, rX0_4, w54_1, q40, q41, q42, q43, q44, Option.toList_some, Option.toList_none, List.cons_append, List.nil_append, xp_K_linkTime, w54_2, w84]
    refine h1 ?_ _ hW
    cases e2 : axU (linkO S) (10 * nv S 3) with
    | none => rfl
    | some q => rw [e2] at e; cases e
  · simp only [wL0, wLc, true_and, w2, lg0, lgi, lgr, lgl, w35, kX0, rX0_4, w54_1, q40, q41, q42, q43, q44, Option.toList_some, Option.toList_none, List.cons_append, List.nil_append, xp_K_linkTime, w54_2, w84]
    cases e2 : axU (linkO S) (10 * nv S 3) with
    | none => rw [e2] at e; cases e
    | some q => rw [e2] at e; cases e; exact h2 q.1 q.2 e2 _ hW
end SZ
