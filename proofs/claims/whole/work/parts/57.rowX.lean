/-! the class's ways: the row of picks, what can come off, how many rows -/
section WZ
variable {ev : EV} {σ : St2} {K : PO} {S : Nat → Int32}
theorem X_firstBest {s : Nat} (hX : XC σ 1 S) (hI : Inv S) (hs : s < 1024) (h4 : σ.1 44 s = nI (mayN S s)) (h5 : σ.1 45 s = nI (slackN S s)) (h6 : σ.1 46 s = nI (hdN S s)) (h7 : σ.1 47 s = encM (lst S 0 s)) (h7k : ∀ k, (mayN S s).testBit k = true → σ.1 47 (s ||| 2 ^ k) = encM (lst S 0 (s ||| 2 ^ k))) (hl : lst S 0 s ≠ none) (ho : ¬ outP S s) (hk : K (some (.int (nI (pick S s)))) σ) : Rn 0 ev mW_firstBest [.ref 43, .int (nI s)] σ K := by
  have hn10 := hI.1.2
  have hml := mayN_lt S s
  have hp2 := p2le _ hn10
  obtain ⟨w, hw⟩ : ∃ w, lst S 0 s = some w := by
    cases e : lst S 0 s with
    | none => exact absurd e hl
    | some w => exact ⟨w, rfl⟩
  have hwl := lst_lt hI hs hw
  obtain ⟨pk1, pk2, pk3⟩ := pick_ok hI hs hl ho
  refine Rn_V (by decide) rc4 rfl rfl ?_
  refine PW_blk okW_firstBest 0 rfl SpX_ok ?_
  simp only [wL0, wLc, true_and, w1, lg0, lgi, lgr, lgl, w55_1, q40, q41, q42, q43, q44, Option.toList_some, Option.toList_none, List.cons_append, List.nil_append, xp_JI_bitCount, w4, ls00, ls0i, ls0r, ls0l, lsi, lsr, lsl, Option.map_some, w0, w71, bcF_n s hs]
  have key := lp_up (n := 10) (P := fun k => (∀ j, j < k → j < nv S 3 → ¬ best S s j) → PW 0 ev mW_firstBest 7 [.ref 43, .int (nI s), .int (nI (pcn s)), .int (nI k)] [] σ K) ?_ ?_ 0 (by decide) (fun j hj => absurd hj (Nat.not_lt_zero j))
  · exact key
  · intro h
    exact absurd pk2 (h _ (by omega) pk1)
  · intro k hk10 ih hno
    have hlt : s ||| 2 ^ k < 2 ^ 10 := or_lt hs hk10
    have hlt2 : s ||| 2 ^ k < 1024 := hlt
    have next : (k < nv S 3 → ¬ best S s k) → ∀ y z, PW 0 ev mW_firstBest 99 [.ref 43, .int (nI s), .int (nI (pcn s)), .int (nI k), .int y, .int z] [] σ K := by
      intro hb y z
      refine PW_blk okW_firstBest 11 rfl SpX_ok ?_
      simp only [wL0, wLc, true_and, w7, lg0, lgi, lgr, lgl, ls00, ls0i, ls0r, ls0l, lsi, lsr, lsl, Option.map_some, w70]
      refine PW_loc 4 ?_
      rw [show (1 : Int32) = nI 1 from rfl, nI_add]
      refine ih (fun j hj => ?_)
      by_cases e : j = k
      · subst e; exact hb
      · exact hno j (by omega)
    have none' : (k < nv S 3 → ¬ best S s k) → PW 0 ev mW_firstBest 64 [.ref 43, .int (nI s), .int (nI (pcn s)), .int (nI k), .int (nI (s ||| 2 ^ k))] [] σ K := by
      intro hb
      refine PW_blk okW_firstBest 7 rfl SpX_ok ?_
      simp only [wL0, wLc, true_and, w0, w71]
      refine PW_blk okW_firstBest 8 rfl SpX_ok ?_
      simp only [wL0, wLc, true_and, w4, ls00, ls0i, ls0r, ls0l, lsi, lsr, lsl, Option.map_some, w1, lg0, lgi, lgr, lgl, w72]
      exact b2Y trivial (next hb _ _)
    refine PW_blk okW_firstBest 1 rfl SpX_ok ?_
    simp only [wL0, wLc, true_and, w1, lg0, lgi, lgr, lgl, w0, w81]
    refine b3Y (nI_lt hk10 (by decide)) ?_
    refine PW_blk okW_firstBest 2 rfl SpX_ok ?_
    simp only [wL0, wLc, true_and, w1, lg0, lgi, lgr, lgl, w55_1, q40, q41, q42, q43, q44, Option.toList_some, Option.toList_none, List.cons_append, List.nil_append, xp_W_isState, w72]
    refine bY (st1 hs) ?_
    refine PW_blk okW_firstBest 3 rfl SpX_ok ?_
    simp only [wL0, wLc, true_and, w1, lg0, lgi, lgr, lgl, w0, w19, w17, w4, ls00, ls0i, ls0r, ls0l, lsi, lsr, lsl, Option.map_some, w2, w35, kX43, rX43_1, kX44, nX44, w39, w20, w16, tn1, w72, nI_sh1 k (by omega), fa_or, v1024 hs, c1024 hs, h4]
    rw [bit1 (by omega) (by omega)]
    by_cases hb : (mayN S s).testBit k = true
    rotate_left
    · exact bN1 hb (none' (fun z y => hb (mayN_bit.mpr ⟨z, y.1⟩)))
    refine bY1 hb ?_
    obtain ⟨hkn, hmk⟩ := mayN_bit.mp hb
    have hk7 := h7k k hb
    refine PW_blk okW_firstBest 4 rfl SpX_ok ?_
    simp only [wL0, wLc, true_and, w1, lg0, lgi, lgr, lgl, w55_1, q40, q41, q42, q43, q44, Option.toList_some, Option.toList_none, List.cons_append, List.nil_append, xp_W_isState, w72]
    refine bY (st1 hlt2) ?_
    refine PW_blk okW_firstBest 5 rfl SpX_ok ?_
    simp only [wL0, wLc, true_and, w2, lg0, lgi, lgr, lgl, w35, kX43, rX43_4, kX47, nX47, w1, w39, w0, w78, v1024 hlt2, c1024 hlt2, hk7]
    cases e : lst S 0 (s ||| 2 ^ k) with
    | none =>
      refine b2Y rfl ?_
      refine none' (fun _ z => ?_)
      obtain ⟨-, v, hv, -⟩ := z
      rw [e] at hv
      cases hv
    | some v =>
      have hvl := lst_lt hI hlt2 e
      have htk := takes_le hI (k := k) (o := s) hkn
      refine b2N (encM_ne (by omega)) ?_
      refine PW_blk okW_firstBest 6 rfl SpX_ok ?_
      simp only [wL0, wLc, true_and, w0, w70]
      refine PW_blk okW_firstBest 8 rfl SpX_ok ?_
      simp only [wL0, wLc, true_and, w4, ls00, ls0i, ls0r, ls0l, lsi, lsr, lsl, Option.map_some, w1, lg0, lgi, lgr, lgl, w72]
      refine b2N (by decide) ?_
      refine PW_blk okW_firstBest 9 rfl SpX_ok ?_
      simp only [wL0, wLc, true_and, w2, lg0, lgi, lgr, lgl, w35, kX43, rX43_4, kX47, nX47, w1, w39, w0, w54_5, q40, q41, q42, q43, q44, Option.toList_some, Option.toList_none, List.cons_append, List.nil_append, w11, tn0, w79, v1024 hlt2, c1024 hlt2, hk7, e]
      refine X_cost (b := 0) hX hI hs hkn (by decide) h5 h6 ?_
      simp only [wL0, wLc, true_and, w2, lg0, lgi, lgr, lgl, w35, kX43, rX43_4, kX47, nX47, w1, w39, w0, w54_5, q40, q41, q42, q43, q44, Option.toList_some, Option.toList_none, List.cons_append, List.nil_append, w11, tn0, w79, v1024 hs, c1024 hs, h7, hw]
      rw [show encM (some v) = nI v from rfl, show encM (some w) = nI w from rfl, show costN S 0 k s = takesN S k s from rfl, nI_add, nI_eq_iff (by omega) (by omega)]
      by_cases h : v + takesN S k s = w
      · refine b3Y h ?_
        refine PW_blk okW_firstBest 10 rfl SpX_ok ?_
        simp only [wL0, wLc, true_and, w1, lg0, lgi, lgr, lgl, w84]
        have hbest : best S s k := ⟨hmk, v, e, by rw [hw, ← h, Nat.add_comm]⟩
        rw [pick_eq ⟨hkn, hbest, fun j hj => hno j hj (by omega)⟩] at hk
        exact hk
      · refine b3N h ?_
        refine next (fun _ z => ?_) _ _
        obtain ⟨-, v', hv', hv2⟩ := z
        rw [e] at hv'
        cases hv'
        rw [hw] at hv2
        have := Option.some.inj hv2
        omega
theorem rst_rch (hI : Inv S) {o : Nat} (ho : o < 2 ^ nv S 3) (hl : lst S 0 o ≠ none) : ∀ i, (∀ j, j < i → ¬ outP S (rst S o j)) → rch S o (rst S o i)
  | 0, _ => rch_fr hI.1.2
  | i + 1, h => by
    have ih := rst_rch hI ho hl i (fun j hj => h j (by omega))
    have hp2 := p2le _ hI.1.2
    obtain ⟨h1, h2, h3, h4⟩ := rst_ok hI ho hl i (fun j hj => h j (by omega))
    obtain ⟨hk, ⟨hm, -⟩, -⟩ := pick_ok hI (by omega) h1 (h i (by omega))
    exact rch_to hI.1.2 (mayN_bit.mpr ⟨hk, hm⟩) ih
theorem X_findRow {fr : Nat} (hX : XC σ 1 S) (hI : Inv S) (hf : fr < 2 ^ nv S 3) (h0 : lst S 0 fr = none → ∀ σ', Wf σ σ' → K (some (.int 0)) σ') (h1 : ∀ m, lst S 0 fr ≠ none → rowM S fr m → m ≤ 10 → ∀ σ', Wf σ σ' → Tab σ' S fr → σ'.1 43 8 = encM (lst S 0 fr) → σ'.1 43 7 = nI m → (∀ i, i < m → σ'.1 49 i = nI (pick S (rst S fr i))) → K (some (.int 1)) σ') : Rn 0 ev mW_findRow [.ref 43, .int (nI fr)] σ K := by
  have hn10 := hI.1.2
  have hp2 := p2le _ hn10
  have hc := CH1
  refine Rn_V (by decide) rc4 rfl rfl ?_
  refine PW_blk okW_findRow 0 rfl SpX_ok ?_
  simp only [wL0, wLc, true_and, w2, lg0, lgi, lgr, lgl, w0, w36, kX43, w1, w54_3, q40, q41, q42, q43, q44, Option.toList_some, Option.toList_none, List.cons_append, List.nil_append, w33, w79, si_is]
  refine X_leastFrom (b := 0) (Wf_X (Wf_sr (by decide) Wf_r) hX) hI hf (by decide) (fun σ1 hW1 w43 _ hT1 h471 => ?_)
  simp only [wL0, wLc, true_and, w2, lg0, lgi, lgr, lgl, w0, w36, kX43, w1, w54_3, q40, q41, q42, q43, q44, Option.toList_some, Option.toList_none, List.cons_append, List.nil_append, w33, w79, si_is, sr1, updS]
  have hW1 : Wf σ σ1 := Wf_t (Wf_sr (by decide) Wf_r) hW1
  cases el : lst S 0 fr with
  | none =>
    refine b3Y rfl ?_
    refine PW_blk okW_findRow 1 rfl SpX_ok ?_
    simp only [wL0, wLc, true_and, w0, w85]
    exact ⟨Or.inl trivial, h0 el _ (Wf_sr (by decide) hW1)⟩
  | some w =>
  have hw := lst_lt hI (by omega) el
  have hne : lst S 0 fr ≠ none := by rw [el]; exact fun z => by cases z
  refine b3N (encM_ne (by omega)) ?_
  refine PW_blk okW_findRow 2 rfl SpX_ok ?_
  simp only [wL0, wLc, true_and, w1, lg0, lgi, lgr, lgl, w4, ls00, ls0i, ls0r, ls0l, lsi, lsr, lsl, Option.map_some, w0, w71]
  have key := lp_up (n := 10) (P := fun i => ∀ σ', Wf σ σ' → Tab σ' S fr → (∀ t, t < 1024 → rch S fr t → σ'.1 47 t = encM (lst S 0 t)) → σ'.1 43 7 = nI i → σ'.1 43 8 = encM (lst S 0 fr) → (∀ j, j < i → σ'.1 49 j = nI (pick S (rst S fr j))) → (∀ j, j < i → ¬ outP S (rst S fr j)) → PW 0 ev mW_findRow 30 [.ref 43, .int (nI fr), .int (nI (rst S fr i)), .int (nI i)] [] σ' K) ?_ ?_ 0 (by decide) (sr σ1 43 (upd (σ1.1 43) 8 (encM (some w)))) (Wf_sr (by decide) hW1) ?_ (fun t ht h => by rw [sr1n (by decide)]; exact h471 t ht h) ?_ ?_ (fun j hj => absurd hj (Nat.not_lt_zero _)) (fun j hj => absurd hj (Nat.not_lt_zero _))
  · exact key
  · intro σ' hW hT h47 h7 h8 h49 hno
    refine PW_blk okW_findRow 3 rfl SpX_ok ?_
    simp only [wL0, wLc, true_and, w1, lg0, lgi, lgr, lgl, w0, w81]
    refine b3N (by decide) ?_
    refine PW_blk okW_findRow 8 rfl SpX_ok ?_
    simp only [wL0, wLc, true_and, w0, w85]
    have hout : outP S (rst S fr 10) := by
      refine Classical.byContradiction (fun z => ?_)
      have := (rst_ok hI hf hne 11 (fun j hj => by
        by_cases e : j = 10
        · subst e; exact z
        · exact hno j (by omega))).2.2.1
      have := pcn_le (rst S fr 11)
      omega
    exact ⟨Or.inr trivial, h1 10 hne ⟨hout, hno⟩ (by decide) σ' hW hT h8 h7 h49⟩
  · intro i hi ih σ' hW hT h47 h7 h8 h49 hno
    obtain ⟨hl, hlt, hpc, hsub⟩ := rst_ok hI hf hne i hno
    have hrc := rst_rch hI hf hne i hno
    have hX' := Wf_X hW hX
    have enext : rst S fr (i + 1) = rst S fr i ||| 2 ^ pick S (rst S fr i) := rfl
    rw [enext] at ih
    refine PW_blk okW_findRow 3 rfl SpX_ok ?_
    simp only [wL0, wLc, true_and, w1, lg0, lgi, lgr, lgl, w0, w81]
    refine b3Y (nI_lt hi (by decide)) ?_
    refine PW_blk okW_findRow 4 rfl SpX_ok ?_
    simp only [wL0, wLc, true_and, w2, lg0, lgi, lgr, lgl, w35, kX43, rX43_0, w1, w54_2, q40, q41, q42, q43, q44, Option.toList_some, Option.toList_none, List.cons_append, List.nil_append, xp_C_isOutAt, CH_e hc, w73, xr2 hX']
    have hs10 : rst S fr i < 1024 := by omega
    by_cases hout : outP S (rst S fr i)
    · refine dY (if_pos hout) ?_
      refine PW_blk okW_findRow 8 rfl SpX_ok ?_
      simp only [wL0, wLc, true_and, w0, w85]
      exact ⟨Or.inr trivial, h1 i hne ⟨hout, hno⟩ (by omega) σ' hW hT h8 h7 h49⟩
    refine dN (if_neg hout) ?_
    obtain ⟨t1, -⟩ := hT _ hs10
    obtain ⟨m4, m5, m6⟩ := t1 hrc
    obtain ⟨pk1, ⟨pk2, -⟩, pk3⟩ := pick_ok hI hs10 hl hout
    refine PW_blk okW_findRow 5 rfl SpX_ok ?_
    simp only [wL0, wLc, true_and, w2, lg0, lgi, lgr, lgl, w1, w54_2, q40, q41, q42, q43, q44, Option.toList_some, Option.toList_none, List.cons_append, List.nil_append, w4, ls00, ls0i, ls0r, ls0l, lsi, lsr, lsl, Option.map_some, w75]
    refine X_firstBest hX' hI hs10 m4 m5 m6 (h47 _ hs10 hrc) (fun k hb => ?_) hl hout ?_
    · have hkn := (mayN_bit.mp hb).1
      have hl2 : rst S fr i ||| 2 ^ k < 2 ^ 10 := or_lt hs10 (by omega)
      exact h47 _ hl2 (rch_to hn10 hb hrc)
    simp only [wL0, wLc, true_and, w2, lg0, lgi, lgr, lgl, w1, w54_2, q40, q41, q42, q43, q44, Option.toList_some, Option.toList_none, List.cons_append, List.nil_append, w4, ls00, ls0i, ls0r, ls0l, lsi, lsr, lsl, Option.map_some, w75]
    refine b3N (lt0 (by omega)) ?_
    have hp10 : pick S (rst S fr i) < 10 := by omega
    refine PW_blk okW_findRow 7 rfl SpX_ok ?_
    simp only [wL0, wLc, true_and, w2, lg0, lgi, lgr, lgl, w35, kX43, rX43_6, kX49, nX49, w1, w40, w0, w11, w36, w19, w17, w4, ls00, ls0i, ls0r, ls0l, lsi, lsr, lsl, Option.map_some, w7, tn1, w70, v10 hi, c10 hi, si_is, nI_sh1 (pick S (rst S fr i)) (by omega), fa_or, sr1n (show 43 ≠ 49 by decide)]
    refine PW_loc 4 ?_
    rw [show (1 : Int32) = nI 1 from rfl, nI_add]
    refine ih _ (Wf_sr (by decide) (Wf_sr (by decide) hW)) ?_ ?_ ?_ ?_ ?_ ?_
    · intro t ht
      rw [sr1n (by decide), sr1n (by decide), sr1n (by decide), sr1n (by decide), sr1n (by decide), sr1n (by decide)]
      exact hT t ht
    · intro t ht h
      rw [sr1n (by decide), sr1n (by decide)]
      exact h47 t ht h
    · rw [sr1, updS]
    · rw [sr1, updN (by decide)]; exact h8
    · intro j hj
      rw [sr1n (by decide), sr1]
      by_cases e : j = i
      · subst e; exact updS
      · rw [updN e]; exact h49 j (by omega)
    · intro j hj
      by_cases e : j = i
      · subst e; exact hout
      · exact hno j (by omega)
  · intro t ht
    rw [sr1n (by decide), sr1n (by decide), sr1n (by decide)]
    exact hT1 t ht
  · rw [sr1, updN (by decide), w43, sr1, updS]
    rfl
  · rw [sr1, updS, el]
theorem X_rowLock {j m : Nat} {p : Int32} (hj : j < m) (hm : m ≤ 10) (h7 : σ.1 43 7 = nI m) (h49 : σ.1 49 j = p) (hk : K (some (.int p)) σ) : Rn 0 ev mW_rowLock [.ref 43, .int (nI j)] σ K := by
  have hj10 : j < 10 := by omega
  refine Rn_V (by decide) rc4 rfl rfl ?_
  refine PW_blk okW_rowLock 0 rfl SpX_ok ?_
  simp only [wL0, wLc, true_and, w1, lg0, lgi, lgr, lgl, w74]
  refine b2N (lt0 (by omega)) ?_
  refine PW_blk okW_rowLock 1 rfl SpX_ok ?_
  simp only [wL0, wLc, true_and, w1, lg0, lgi, lgr, lgl, w2, w33, kX43, w81, h7]
  refine b3Y (nI_lt hj (by omega)) ?_
  refine PW_blk okW_rowLock 2 rfl SpX_ok ?_
  simp only [wL0, wLc, true_and, w1, lg0, lgi, lgr, lgl, w0, w81]
  refine b3Y (nI_lt hj10 (by decide)) ?_
  refine PW_blk okW_rowLock 3 rfl SpX_ok ?_
  simp only [wL0, wLc, true_and, w2, lg0, lgi, lgr, lgl, w35, kX43, rX43_6, kX49, nX49, w1, w39, w70, v10 hj10, c10 hj10, h49]
  refine PW_blk okW_rowLock 5 rfl SpX_ok ?_
  simp only [wL0, w84]
  exact hk
theorem X_rowEnd {v : Nat} (hX : XC σ 1 S) (hI : Inv S) (h8 : σ.1 43 8 = nI v) (hk : K (some (.int (nI (nv S 0 + v)))) σ) : Rn 0 ev mW_rowEnd [.ref 43] σ K := by
  have hc := CH1
  refine Rn_V (by decide) rc4 rfl rfl ?_
  refine PW_blk okW_rowEnd 0 rfl SpX_ok ?_
  simp only [wL0, wLc, true_and, w2, lg0, lgi, lgr, lgl, w35, kX43, rX43_0, w33, CH_k hc, w11, w84, x5 hX hI, h8]
  rw [nI_add]
  exact hk
theorem X_ith {i : Int32} (hX : XC σ 1 S) (hI : Inv S) (h1 : ¬ rgI i 0 9 → K (some (.int (-1000001))) (noX σ 0)) (h2 : ∀ j, j ≤ 9 → i = nI j → (lst S 0 (nv S 2) = none ∨ ∃ m, rowM S (nv S 2) m ∧ m ≤ j) → ∀ σ', Wf σ σ' → K (some (.int (-1000004))) (noX σ' 3)) (h3 : ∀ j m, i = nI j → lst S 0 (nv S 2) ≠ none → rowM S (nv S 2) m → j < m → ∀ σ', Wf σ σ' → K (some (.int (nI (pick S (rst S (nv S 2) j))))) σ') : Rn 0 ev mX_ith [.ref 0, .int i] σ K := by
  have hc := CH1
  refine Rn_V (by decide) rc5 rfl rfl ?_
  refine PW_blk okX_ith 0 rfl SpX_ok ?_
  simp only [wL0, wLc, true_and, w1, lg0, lgi, lgr, lgl, w74]
  have no : ¬ rgI i 0 9 → PW 0 ev mX_ith 10 [.ref 0, .int i] [] σ K := by
    intro z
    refine PW_blk okX_ith 2 rfl SpX_ok ?_
    simp only [wL0, wLc, true_and, w2, lg0, lgi, lgr, lgl, w0, w54_2, q40, q41, q42, q43, q44, Option.toList_some, Option.toList_none, List.cons_append, List.nil_append, xp_X_tell, tl0, tl1, tl2, tl3, tl4, tl5, tl6, tq0, tq1, tq2, tq3, tq4, tq5, tq6, w84]
    exact h1 z
  by_cases c1 : i < 0
  · refine b2Y c1 (no (fun ⟨n, a, b, e⟩ => ?_))
    rw [e] at c1
    exact lt0 (by omega) c1
  refine b2N c1 ?_
  obtain ⟨j, hj, rfl⟩ := ge0 c1
  refine PW_blk okX_ith 1 rfl SpX_ok ?_
  simp only [wL0, wLc, true_and, w1, lg0, lgi, lgr, lgl, w0, w80]
  rw [show (10 : Int32) = nI 10 from rfl, nI_lt_iff (by omega) (by decide)]
  by_cases c2 : j < 10
  rotate_left
  · refine b2N c2 (no (fun ⟨n, a, b, e⟩ => ?_))
    rw [nI_eq_iff (by omega) (by omega)] at e
    omega
  refine b2Y c2 ?_
  have none' : (lst S 0 (nv S 2) = none ∨ ∃ m, rowM S (nv S 2) m ∧ m ≤ j) → ∀ σ', Wf σ σ' → PW 0 ev mX_ith 45 [.ref 0, .int (nI j)] [] σ' K := by
    intro z σ' hW
    refine PW_blk okX_ith 5 rfl SpX_ok ?_
    simp only [wL0, wLc, true_and, w2, lg0, lgi, lgr, lgl, w0, w54_2, q40, q41, q42, q43, q44, Option.toList_some, Option.toList_none, List.cons_append, List.nil_append, xp_X_tell, tl0, tl1, tl2, tl3, tl4, tl5, tl6, tq0, tq1, tq2, tq3, tq4, tq5, tq6, w84]
    exact h2 j (by omega) rfl z σ' hW
  refine PW_blk okX_ith 3 rfl SpX_ok ?_
  simp only [wL0, wLc, true_and, w2, lg0, lgi, lgr, lgl, w35, kX0, rX0_3, rX0_0, w33, CH_k hc, w54_2, q40, q41, q42, q43, q44, Option.toList_some, Option.toList_none, List.cons_append, List.nil_append, w72, x4 hX hI]
  refine X_findRow hX hI hI.2.1.2 (fun e σ' hW => ?_) (fun m hne hm hm10 σ' hW _ _ h7 h49 => ?_)
  · simp only [wL0, wLc, true_and, w2, lg0, lgi, lgr, lgl, w35, kX0, rX0_3, rX0_0, w33, CH_k hc, w54_2, q40, q41, q42, q43, q44, Option.toList_some, Option.toList_none, List.cons_append, List.nil_append, w72]
    exact b2Y trivial (none' (Or.inl e) σ' hW)
  · simp only [wL0, wLc, true_and, w2, lg0, lgi, lgr, lgl, w35, kX0, rX0_3, rX0_0, w33, CH_k hc, w54_2, q40, q41, q42, q43, q44, Option.toList_some, Option.toList_none, List.cons_append, List.nil_append, w72]
    refine b2N (by decide) ?_
    refine PW_blk okX_ith 4 rfl SpX_ok ?_
    simp only [wL0, wLc, true_and, w1, lg0, lgi, lgr, lgl, w2, w35, kX0, rX0_3, w54_1, q40, q41, q42, q43, q44, Option.toList_some, Option.toList_none, List.cons_append, List.nil_append, xp_W_rowLength, w80, h7]
    rw [nI_lt_iff (by omega) (by omega)]
    by_cases c3 : j < m
    rotate_left
    · exact b2N c3 (none' (Or.inr ⟨m, hm, by omega⟩) σ' hW)
    refine b2Y c3 ?_
    refine PW_blk okX_ith 6 rfl SpX_ok ?_
    simp only [wL0, wLc, true_and, w2, lg0, lgi, lgr, lgl, w35, kX0, rX0_3, w1, w54_2, q40, q41, q42, q43, q44, Option.toList_some, Option.toList_none, List.cons_append, List.nil_append, w84]
    refine X_rowLock c3 hm10 h7 (h49 j c3) ?_
    simp only [wL0, wLc, true_and, w2, lg0, lgi, lgr, lgl, w35, kX0, rX0_3, w1, w54_2, q40, q41, q42, q43, q44, Option.toList_some, Option.toList_none, List.cons_append, List.nil_append, w84]
    exact h3 j m rfl hne hm c3 σ' hW
theorem X_rowHeard {m v0 : Nat} (hX : XC σ 1 S) (hI : Inv S) (hC : nv S 0 ≤ 99999) (hl : lst S 0 (nv S 2) = some v0) (hm : rowM S (nv S 2) m) (hm10 : m ≤ 10) (hT : Tab σ S (nv S 2)) (h7 : σ.1 43 7 = nI m) (h49 : ∀ i, i < m → σ.1 49 i = nI (pick S (rst S (nv S 2) i))) (hk : K (some (.int (SSq S (nv S 2) m 1 - S 1))) σ) : Rn 0 ev mW_rowHeard [.ref 43] σ K := by
  have hn10 := hI.1.2
  have hp2 := p2le _ hn10
  have hc := CH1
  have hne : lst S 0 (nv S 2) ≠ none := by rw [hl]; exact fun z => by cases z
  refine Rn_V (by decide) rc4 rfl rfl ?_
  refine PW_blk okW_rowHeard 0 rfl SpX_ok ?_
  simp only [wL0, wLc, true_and, w2, lg0, lgi, lgr, lgl, w35, kX43, rX43_0, w33, CH_k hc, w4, ls00, ls0i, ls0r, ls0l, lsi, lsr, lsl, Option.map_some, w0, w71, x4 hX hI, hX.1.2.2.1]
  have key := lp_up (n := m) (P := fun i => PW 0 ev mW_rowHeard 21 [.ref 43, .int (nI (rst S (nv S 2) i)), .int (SSq S (nv S 2) i 0), .int (SSq S (nv S 2) i 1 - S 1), .int (nI i)] [] σ K) ?_ ?_ 0 (Nat.zero_le _)
  · have e : SSq S (nv S 2) 0 1 - S 1 = 0 := Int32.sub_self _
    rw [e] at key
    exact key
  · refine PW_blk okW_rowHeard 1 rfl SpX_ok ?_
    simp only [wL0, wLc, true_and, w1, lg0, lgi, lgr, lgl, w2, w33, kX43, w81, h7]
    refine b3N (nI_nlt (Nat.le_refl _) (by omega)) ?_
    refine PW_blk okW_rowHeard 6 rfl SpX_ok ?_
    simp only [wL0, wLc, true_and, w1, lg0, lgi, lgr, lgl, w84]
    exact hk
  · intro i hi ih
    have hno : ∀ j, j < i → ¬ outP S (rst S (nv S 2) j) := fun j hj => hm.2 j (by omega)
    obtain ⟨q1, q2, q3, q4⟩ := rst_ok hI hI.2.1.2 hne i hno
    have hs10 : rst S (nv S 2) i < 1024 := by omega
    obtain ⟨pk1, -⟩ := pick_ok hI hs10 q1 (hm.2 i hi)
    obtain ⟨g1, g2, v2, g3, g4⟩ := SSq_ok hI hC hl i hno
    have hag := SSq_ag (S := S) (o := nv S 2) i
    obtain ⟨t1, -⟩ := hT _ hs10
    obtain ⟨m4, m5, m6⟩ := t1 (rst_rch hI hI.2.1.2 hne i hno)
    have hi10 : i < 10 := by omega
    have e0 : SSq S (nv S 2) (i + 1) 0 = SSq S (nv S 2) i 0 + nI (takesN S (pick S (rst S (nv S 2) i)) (rst S (nv S 2) i)) := by
      show stS _ _ 0 = _
      unfold stS
      rw [updN (by decide), updS, g2, takesN_ag hag]
    have e1 : SSq S (nv S 2) (i + 1) 1 = SSq S (nv S 2) i 1 + if plF (S 7) (S 8) (SSq S (nv S 2) i 0) = 0 then nI (soundN S (pick S (rst S (nv S 2) i))) else 0 := by
      show stS _ _ 1 = _
      rw [stS_1, soundN_ag hag, hag 7 (by decide), hag 8 (by decide)]
    have fin : ∀ x : Int32, x = SSq S (nv S 2) (i + 1) 1 - S 1 → PW 0 ev mW_rowHeard 65 [.ref 43, .int (nI (rst S (nv S 2) i)), .int (SSq S (nv S 2) i 0), .int x, .int (nI i)] [] σ K := by
      intro x hx
      subst hx
      refine PW_blk okW_rowHeard 5 rfl SpX_ok ?_
      simp only [wL0, wLc, true_and, w1, lg0, lgi, lgr, lgl, w2, w35, kX43, rX43_6, kX49, nX49, w39, w55_1, q40, q41, q42, q43, q44, Option.toList_some, Option.toList_none, List.cons_append, List.nil_append, xp_JI_bitCount, w0, w54_5, w11, w4, ls00, ls0i, ls0r, ls0l, lsi, lsr, lsl, Option.map_some, w19, w17, w7, tn0, tn1, w70, v10 hi10, c10 hi10, h49 i hi, bcF_n _ hs10]
      refine X_cost (b := 0) hX hI hs10 pk1 (by decide) m5 m6 ?_
      simp only [wL0, wLc, true_and, w1, lg0, lgi, lgr, lgl, w2, w35, kX43, rX43_6, kX49, nX49, w39, w55_1, q40, q41, q42, q43, q44, Option.toList_some, Option.toList_none, List.cons_append, List.nil_append, xp_JI_bitCount, w0, w54_5, w11, w4, ls00, ls0i, ls0r, ls0l, lsi, lsr, lsl, Option.map_some, w19, w17, w7, tn0, tn1, w70, v10 hi10, c10 hi10, h49 i hi, nI_sh1 (pick S (rst S (nv S 2) i)) (by omega), fa_or]
      rw [show (1 : Int32) = nI 1 from rfl, nI_add]
      rw [e0] at ih
      exact ih
    refine PW_blk okW_rowHeard 1 rfl SpX_ok ?_
    simp only [wL0, wLc, true_and, w1, lg0, lgi, lgr, lgl, w2, w33, kX43, w81, h7]
    refine b3Y (nI_lt hi (by omega)) ?_
    refine PW_blk okW_rowHeard 2 rfl SpX_ok ?_
    simp only [wL0, wLc, true_and, w1, lg0, lgi, lgr, lgl, w0, w81]
    refine b3Y (nI_lt hi10 (by decide)) ?_
    refine PW_blk okW_rowHeard 3 rfl SpX_ok ?_
    simp only [wL0, wLc, true_and, w2, lg0, lgi, lgr, lgl, w35, kX43, rX43_0, w1, w54_2, q40, q41, q42, q43, q44, Option.toList_some, Option.toList_none, List.cons_append, List.nil_append, xp_C_playsAt, CH_e hc, w73, xr3 hX, xr4 hX]
    rcases plF_01 (S 7) (S 8) (SSq S (nv S 2) i 0) with h | h
    · refine dN h ?_
      refine PW_blk okW_rowHeard 4 rfl SpX_ok ?_
      simp only [wL0, wLc, true_and, w1, lg0, lgi, lgr, lgl, w2, w35, kX43, rX43_0, rX43_6, kX49, nX49, w39, w54_2, q40, q41, q42, q43, q44, Option.toList_some, Option.toList_none, List.cons_append, List.nil_append, w11, w4, ls00, ls0i, ls0r, ls0l, lsi, lsr, lsl, Option.map_some, w71, v10 hi10, c10 hi10, h49 i hi]
      refine X_sounds hc hX hI pk1 ?_
      simp only [wL0, wLc, true_and, w1, lg0, lgi, lgr, lgl, w2, w35, kX43, rX43_0, rX43_6, kX49, nX49, w39, w54_2, q40, q41, q42, q43, q44, Option.toList_some, Option.toList_none, List.cons_append, List.nil_append, w11, w4, ls00, ls0i, ls0r, ls0l, lsi, lsr, lsl, Option.map_some, w71]
      refine fin _ ?_
      rw [e1, if_pos h, Int32.sub_eq_add_neg, Int32.sub_eq_add_neg, Int32.add_assoc, Int32.add_comm (-S 1), ← Int32.add_assoc]
    · refine dY h ?_
      refine fin _ ?_
      rw [e1, if_neg (by rw [h]; decide), Int32.add_zero]
theorem X_ahead {what : Int32} (hX : XC σ 1 S) (hI : Inv S) (hC : nv S 0 ≤ 99999) (h1 : ¬ rgI what 0 1 → K (some (.int (-1000001))) (noX σ 0)) (h2 : ∀ w, w ≤ 1 → what = nI w → lst S 0 (nv S 2) = none → ∀ σ', Wf σ σ' → K (some (.int (-1000004))) (noX σ' 3)) (h3 : ∀ w v, w ≤ 1 → what = nI w → lst S 0 (nv S 2) = some v → 99999 < nv S 0 + v → ∀ σ', Wf σ σ' → K (some (.int (-1000005))) (noX σ' 4)) (h4 : ∀ v, what = nI 0 → lst S 0 (nv S 2) = some v → nv S 0 + v ≤ 99999 → ∀ σ', Wf σ σ' → K (some (.int (nI (nv S 0 + v)))) σ') (h5 : ∀ v m, what = nI 1 → lst S 0 (nv S 2) = some v → nv S 0 + v ≤ 99999 → rowM S (nv S 2) m → ∀ σ', Wf σ σ' → K (some (.int (SSq S (nv S 2) m 1 - S 1))) σ') : Rn 0 ev mX_ahead [.ref 0, .int what] σ K := by
  have hc := CH1
  have hlt : nv S 2 < 1024 := by have := hI.2.1.1.2; omega
  refine Rn_V (by decide) rc5 rfl rfl ?_
  refine PW_blk okX_ahead 0 rfl SpX_ok ?_
  simp only [wL0, wLc, true_and, w1, lg0, lgi, lgr, lgl, w74]
  have no : ¬ rgI what 0 1 → PW 0 ev mX_ahead 9 [.ref 0, .int what] [] σ K := by
    intro z
    refine PW_blk okX_ahead 2 rfl SpX_ok ?_
    simp only [wL0, wLc, true_and, w2, lg0, lgi, lgr, lgl, w0, w54_2, q40, q41, q42, q43, q44, Option.toList_some, Option.toList_none, List.cons_append, List.nil_append, xp_X_tell, tl0, tl1, tl2, tl3, tl4, tl5, tl6, tq0, tq1, tq2, tq3, tq4, tq5, tq6, w84]
    exact h1 z
  by_cases c1 : what < 0
  · refine b2Y c1 (no (fun ⟨n, a, b, e⟩ => ?_))
    rw [e] at c1
    exact lt0 (by omega) c1
  refine b2N c1 ?_
  obtain ⟨w, hw, rfl⟩ := ge0 c1
  refine PW_blk okX_ahead 1 rfl SpX_ok ?_
  simp only [wL0, wLc, true_and, w1, lg0, lgi, lgr, lgl, w0, w83]
  rw [show (1 : Int32) = nI 1 from rfl, nI_lt_iff (by decide) (by omega)]
  by_cases c2 : 1 < w
  · refine b3Y c2 (no (fun ⟨n, a, b, e⟩ => ?_))
    rw [nI_eq_iff (by omega) (by omega)] at e
    omega
  refine b3N c2 ?_
  refine PW_blk okX_ahead 3 rfl SpX_ok ?_
  simp only [wL0, wLc, true_and, w2, lg0, lgi, lgr, lgl, w35, kX0, rX0_3, rX0_0, w33, CH_k hc, w54_2, q40, q41, q42, q43, q44, Option.toList_some, Option.toList_none, List.cons_append, List.nil_append, w73, x4 hX hI]
  refine X_findRow hX hI hI.2.1.2 (fun e σ' hW => ?_) (fun m hne hm hm10 σ' hW hT h47 h7 h49 => ?_)
  · simp only [wL0, wLc, true_and, w2, lg0, lgi, lgr, lgl, w35, kX0, rX0_3, rX0_0, w33, CH_k hc, w54_2, q40, q41, q42, q43, q44, Option.toList_some, Option.toList_none, List.cons_append, List.nil_append, w73]
    refine b3Y trivial ?_
    refine PW_blk okX_ahead 4 rfl SpX_ok ?_
    simp only [wL0, wLc, true_and, w2, lg0, lgi, lgr, lgl, w0, w54_2, q40, q41, q42, q43, q44, Option.toList_some, Option.toList_none, List.cons_append, List.nil_append, xp_X_tell, tl0, tl1, tl2, tl3, tl4, tl5, tl6, tq0, tq1, tq2, tq3, tq4, tq5, tq6, w84]
    exact h2 w (by omega) rfl e σ' hW
  · simp only [wL0, wLc, true_and, w2, lg0, lgi, lgr, lgl, w35, kX0, rX0_3, rX0_0, w33, CH_k hc, w54_2, q40, q41, q42, q43, q44, Option.toList_some, Option.toList_none, List.cons_append, List.nil_append, w73]
    refine b3N (by decide) ?_
    obtain ⟨v, hv⟩ : ∃ v, lst S 0 (nv S 2) = some v := by
      cases e : lst S 0 (nv S 2) with
      | none => exact absurd e hne
      | some v => exact ⟨v, rfl⟩
    have hvl := lst_lt hI hlt hv
    rw [hv] at h47
    have hX' := Wf_X hW hX
    refine PW_blk okX_ahead 5 rfl SpX_ok ?_
    simp only [wL0, wLc, true_and, w2, lg0, lgi, lgr, lgl, w35, kX0, rX0_3, w54_1, q40, q41, q42, q43, q44, Option.toList_some, Option.toList_none, List.cons_append, List.nil_append, w4, ls00, ls0i, ls0r, ls0l, lsi, lsr, lsl, Option.map_some, w1, w0, w83]
    refine X_rowEnd hX' hI h47 ?_
    simp only [wL0, wLc, true_and, w2, lg0, lgi, lgr, lgl, w35, kX0, rX0_3, w54_1, q40, q41, q42, q43, q44, Option.toList_some, Option.toList_none, List.cons_append, List.nil_append, w4, ls00, ls0i, ls0r, ls0l, lsi, lsr, lsl, Option.map_some, w1, w0, w83]
    rw [show (99999 : Int32) = nI 99999 from rfl, nI_lt_iff (by decide) (by omega)]
    by_cases c3 : 99999 < nv S 0 + v
    · refine b3Y c3 ?_
      refine PW_blk okX_ahead 6 rfl SpX_ok ?_
      simp only [wL0, wLc, true_and, w2, lg0, lgi, lgr, lgl, w0, w54_2, q40, q41, q42, q43, q44, Option.toList_some, Option.toList_none, List.cons_append, List.nil_append, xp_X_tell, tl0, tl1, tl2, tl3, tl4, tl5, tl6, tq0, tq1, tq2, tq3, tq4, tq5, tq6, w84]
      exact h3 w v (by omega) rfl hv c3 σ' hW
    refine b3N c3 ?_
    refine PW_blk okX_ahead 7 rfl SpX_ok ?_
    simp only [wL0, wLc, true_and, w1, lg0, lgi, lgr, lgl, w73]
    rcases (show w = 0 ∨ w = 1 by omega) with rfl | rfl
    · refine b3Y rfl ?_
      refine PW_blk okX_ahead 8 rfl SpX_ok ?_
      simp only [wL0, wLc, true_and, w1, lg0, lgi, lgr, lgl, w70]
      refine PW_blk okX_ahead 10 rfl SpX_ok ?_
      simp only [wL0, w84]
      exact h4 v rfl hv (by omega) σ' hW
    · refine b3N (by decide) ?_
      refine PW_blk okX_ahead 9 rfl SpX_ok ?_
      simp only [wL0, wLc, true_and, w2, lg0, lgi, lgr, lgl, w35, kX0, rX0_3, w54_1, q40, q41, q42, q43, q44, Option.toList_some, Option.toList_none, List.cons_append, List.nil_append, w71]
      refine X_rowHeard hX' hI hC hv hm hm10 hT h7 h49 ?_
      simp only [wL0, wLc, true_and, w2, lg0, lgi, lgr, lgl, w35, kX0, rX0_3, w54_1, q40, q41, q42, q43, q44, Option.toList_some, Option.toList_none, List.cons_append, List.nil_append, w71]
      refine PW_blk okX_ahead 10 rfl SpX_ok ?_
      simp only [wL0, w84]
      exact h5 v m rfl hv (by omega) hm σ' hW
end WZ
