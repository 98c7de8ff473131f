/-! the class's ways: what can be come to, and sums over it -/
/-- nothing but the cells of the ways and the smith has changed -/
def Wf (σ σ' : St2) : Prop := ∀ i, ¬ (43 ≤ i ∧ i ≤ 50) → σ'.1 i = σ.1 i
theorem Wf_r {σ : St2} : Wf σ σ := fun _ _ => rfl
theorem Wf_sr {k : Nat} {σ σ' : St2} {r : Nat → Int32} (hk : 43 ≤ k ∧ k ≤ 50) (h : Wf σ σ') : Wf σ (sr σ' k r) := fun i hi => by
  rw [sr1n (k := k) (i := i) (fun e => hi (by rw [e]; exact hk))]
  exact h i hi
theorem Wf_t {a b d : St2} (h : Wf a b) (h2 : Wf b d) : Wf a d := fun i hi => (h2 i hi).trans (h i hi)
theorem Wf_X {σ σ' : St2} {S : Nat → Int32} (h : Wf σ σ') (hX : XC σ 1 S) : XC σ' 1 S := XC_cong (fun i h1 h2 => h i (by omega)) hX
def rch (S : Nat → Int32) (fr t : Nat) : Prop := cw S 0 fr t ≠ 0
theorem okW0 {S : Nat → Int32} {s k : Nat} : okW S 0 s k ↔ (mayN S s).testBit k = true := by
  rw [mayN_bit]
  exact ⟨fun h => ⟨h.1, h.2.1⟩, fun h => ⟨h.1, h.2, fun z => absurd rfl z⟩⟩
theorem rch_iff {S : Nat → Int32} {fr t : Nat} (hn : nv S 3 ≤ 10) : rch S fr t ↔ t = fr ∨ ∃ p k, p < t ∧ (mayN S p).testBit k = true ∧ rch S fr p ∧ t = p ||| 2 ^ k := by
  have ho := okW_p (S := S) (stop := 0) hn
  constructor
  · intro h
    rcases fw_from (ok := okW S 0) (fr := fr) (s := t) (t := t) h with e | ⟨p, k, a, b, d, e⟩
    · exact Or.inl e
    · exact Or.inr ⟨p, k, a, okW0.mp d, e, b⟩
  · intro h
    rcases h with e | ⟨p, k, a, b, d, e⟩
    · subst e
      show fw (okW S 0) t t t ≠ 0
      rw [fw_first ho (Nat.le_refl _)]
      show (if t = t then 1 else 0) ≠ 0
      rw [if_pos rfl]
      decide
    · subst e
      exact fw_to ho (okW0.mpr b) d
theorem rch_sub {S : Nat → Int32} {fr t : Nat} (hn : nv S 3 ≤ 10) (h : rch S fr t) : fr &&& t = fr := fw_sub (okW_p hn) h
theorem rch_lt {S : Nat → Int32} {fr t : Nat} (hn : nv S 3 ≤ 10) (hf : fr < 2 ^ nv S 3) (h : rch S fr t) : t < 2 ^ nv S 3 := fw_lt (okW_p hn) (fun s k h => h.1) hf h
theorem rch_ge {S : Nat → Int32} {fr t : Nat} (hn : nv S 3 ≤ 10) (h : rch S fr t) : fr ≤ t := by
  have := rch_sub hn h
  have h2 : fr &&& t ≤ t := Nat.and_le_right
  omega
theorem rch_to {S : Nat → Int32} {fr p k : Nat} (hn : nv S 3 ≤ 10) (hb : (mayN S p).testBit k = true) (h : rch S fr p) : rch S fr (p ||| 2 ^ k) := fw_to (okW_p hn) (okW0.mpr hb) h
theorem rch_fr {S : Nat → Int32} {fr : Nat} (hn : nv S 3 ≤ 10) : rch S fr fr := (rch_iff hn).mpr (Or.inl rfl)
/-- what the ways hold, explored from fr on -/
def Tab (σ : St2) (S : Nat → Int32) (fr : Nat) : Prop := ∀ t, t < 1024 → (rch S fr t → σ.1 44 t = nI (mayN S t) ∧ σ.1 45 t = nI (slackN S t) ∧ σ.1 46 t = nI (hdN S t)) ∧ (¬ rch S fr t → σ.1 44 t = -1)
theorem v1024 {k : Nat} (h : k < 1024) : vp_in (nI k) 1024 = True := eq_true (vp_in_nI h (by decide))
theorem c1024 {k : Nat} (h : k < 1024) : (nI k).toNatClampNeg = k := nI_clamp (by omega)
theorem st1 {k : Nat} (h : k < 1024) : in0F (nI k) 1024 = 1 := by
  rw [show (1024 : Int32) = nI 1024 from rfl]
  exact in0Y (by decide) ⟨k, h, rfl⟩
/-- a row with 0 at all that one lock more of a set comes to -/
noncomputable def mkF (r : Nat → Int32) (s M m : Nat) : Nat → Int32 := fun t => cif (∃ k, k < m ∧ M.testBit k = true ∧ t = s ||| 2 ^ k) 0 (r t)
theorem mkF_0 {r : Nat → Int32} {s M : Nat} : mkF r s M 0 = r := by
  funext t
  unfold mkF
  rw [cif_n (fun ⟨k, h, _⟩ => absurd h (Nat.not_lt_zero k))]
theorem mkF_y {r : Nat → Int32} {s M m : Nat} (hb : M.testBit m = true) : upd (mkF r s M m) (s ||| 2 ^ m) 0 = mkF r s M (m + 1) := by
  funext t
  rw [updI]
  unfold mkF
  by_cases h : t = s ||| 2 ^ m
  · rw [if_pos h, cif_y ⟨m, Nat.lt_succ_self m, hb, h⟩]
  · rw [if_neg h]
    by_cases h2 : ∃ k, k < m ∧ M.testBit k = true ∧ t = s ||| 2 ^ k
    · obtain ⟨k, a, b, d⟩ := h2
      rw [cif_y ⟨k, a, b, d⟩, cif_y ⟨k, by omega, b, d⟩]
    · rw [cif_n h2, cif_n (fun ⟨k, a, b, d⟩ => by
        by_cases e : k = m
        · subst e; exact h d
        · exact h2 ⟨k, by omega, b, d⟩)]
theorem mkF_n {r : Nat → Int32} {s M m : Nat} (hb : ¬ M.testBit m = true) : mkF r s M m = mkF r s M (m + 1) := by
  funext t
  unfold mkF
  by_cases h2 : ∃ k, k < m ∧ M.testBit k = true ∧ t = s ||| 2 ^ k
  · obtain ⟨k, a, b, d⟩ := h2
    rw [cif_y ⟨k, a, b, d⟩, cif_y ⟨k, by omega, b, d⟩]
  · rw [cif_n h2, cif_n (fun ⟨k, a, b, d⟩ => by
      by_cases e : k = m
      · subst e; exact hb b
      · exact h2 ⟨k, by omega, b, d⟩)]
def Qr (S : Nat → Int32) (fr s t : Nat) : Prop := t = fr ∨ ∃ p k, p < s ∧ (mayN S p).testBit k = true ∧ rch S fr p ∧ t = p ||| 2 ^ k
def TabU (σ : St2) (S : Nat → Int32) (fr s : Nat) : Prop := ∀ t, t < 1024 → (t < s → rch S fr t → σ.1 44 t = nI (mayN S t) ∧ σ.1 45 t = nI (slackN S t) ∧ σ.1 46 t = nI (hdN S t)) ∧ (t < s → ¬ rch S fr t → σ.1 44 t = -1) ∧ (s ≤ t → Qr S fr s t → σ.1 44 t = 0) ∧ (s ≤ t → ¬ Qr S fr s t → σ.1 44 t = -1)
section WX
variable {ev : EV} {σ : St2} {K : PO} {S : Nat → Int32}
theorem X_markFollowers {s M : Nat} (hs : s < 1024) (hM : M < 1024) (hk : K none (sr σ 44 (mkF (σ.1 44) s M 10))) : Rn 0 ev mW_markFollowers [.ref 43, .int (nI s), .int (nI M)] σ K := by
  refine Rn_V (by decide) rc4 rfl rfl ?_
  refine PW_blk okW_markFollowers 0 rfl SpX_ok ?_
  simp only [wL0, wLc, true_and, w0, w4, ls00, ls0i, ls0r, ls0l, lsi, lsr, lsl, Option.map_some, w71]
  have key := lp_up (n := 10) (P := fun m => PW 0 ev mW_markFollowers 2 [.ref 43, .int (nI s), .int (nI M), .int (nI m)] [] (sr σ 44 (mkF (σ.1 44) s M m)) K) ?_ ?_ 0 (by decide)
  · rw [mkF_0, sr_self] at key
    exact key
  · refine PW_blk okW_markFollowers 1 rfl SpX_ok ?_
    simp only [wL0, wLc, true_and, w1, lg0, lgi, lgr, lgl, w0, w81]
    refine b3N (by decide) ?_
    refine PW_blk okW_markFollowers 6 rfl SpX_ok ?_
    simp only [wL0, w87]
    exact hk
  · intro m hm ih
    have hlt : s ||| 2 ^ m < 2 ^ 10 := or_lt hs hm
    have hlt2 : s ||| 2 ^ m < 1024 := hlt
    have fin : ∀ r, r = mkF (σ.1 44) s M (m + 1) → PW 0 ev mW_markFollowers 39 [.ref 43, .int (nI s), .int (nI M), .int (nI m), .int (nI (s ||| 2 ^ m))] [] (sr σ 44 r) K := by
      intro r hr
      subst hr
      refine PW_blk okW_markFollowers 5 rfl SpX_ok ?_
      simp only [wL0, wLc, true_and, w7, lg0, lgi, lgr, lgl, ls00, ls0i, ls0r, ls0l, lsi, lsr, lsl, Option.map_some, w70]
      refine PW_loc 4 ?_
      rw [show (1 : Int32) = nI 1 from rfl, nI_add]
      exact ih
    refine PW_blk okW_markFollowers 1 rfl SpX_ok ?_
    simp only [wL0, wLc, true_and, w1, lg0, lgi, lgr, lgl, w0, w81]
    refine b3Y (nI_lt hm (by decide)) ?_
    refine PW_blk okW_markFollowers 2 rfl SpX_ok ?_
    simp only [wL0, wLc, true_and, w1, lg0, lgi, lgr, lgl, w0, w19, w17, w4, ls00, ls0i, ls0r, ls0l, lsi, lsr, lsl, Option.map_some, w20, w16, w72, nI_sh1 m (by omega), fa_or]
    rw [bit1 (by omega) (by omega)]
    by_cases hb : M.testBit m = true
    · refine bY1 hb ?_
      refine PW_blk okW_markFollowers 3 rfl SpX_ok ?_
      simp only [wL0, wLc, true_and, w1, lg0, lgi, lgr, lgl, w55_1, q40, q41, q42, q43, q44, Option.toList_some, Option.toList_none, List.cons_append, List.nil_append, xp_W_isState, w72]
      refine bY (st1 hlt2) ?_
      refine PW_blk okW_markFollowers 4 rfl SpX_ok ?_
      simp only [wL0, wLc, true_and, w2, lg0, lgi, lgr, lgl, w35, kX43, rX43_1, kX44, nX44, w1, w0, w40, tn0, w71, v1024 hlt2, c1024 hlt2, si_sr]
      exact fin _ (mkF_y hb)
    · exact bN1 hb (fin _ (mkF_n hb))
theorem X_explore {fr : Nat} (hX : XC σ 1 S) (hI : Inv S) (hf : fr < 2 ^ nv S 3) (hk : ∀ σ', Wf σ σ' → σ'.1 43 = σ.1 43 → σ'.1 50 = σ.1 50 → Tab σ' S fr → K none σ') : Rn 0 ev mW_explore [.ref 43, .int (nI fr)] σ K := by
  have hn10 := hI.1.2
  have hT := p2le _ hn10
  have hc := CH1
  refine Rn_V (by decide) rc4 rfl rfl ?_
  refine PW_blk okW_explore 0 rfl SpX_ok ?_
  simp only [wL0, wLc, true_and, w2, lg0, lgi, lgr, lgl, w35, kX43, rX43_0, w54_1, q40, q41, q42, q43, q44, Option.toList_some, Option.toList_none, List.cons_append, List.nil_append, xp_C_allLocks, CH_e hc, w4, ls00, ls0i, ls0r, ls0l, lsi, lsr, lsl, Option.map_some, rX43_1, kX44, nX44, w0, w55_2, w1, w55_1, xp_W_isState, w73, x3 hX hI, alF_n _ (show nv S 3 < 31 by omega)]
  refine X_fill (k := 44) (n := 1024) kX44 nX44 (by decide) (fun r h1 _ => ?_)
  simp only [wL0, wLc, true_and, w2, lg0, lgi, lgr, lgl, w35, kX43, rX43_0, w54_1, q40, q41, q42, q43, q44, Option.toList_some, Option.toList_none, List.cons_append, List.nil_append, xp_C_allLocks, CH_e hc, w4, ls00, ls0i, ls0r, ls0l, lsi, lsr, lsl, Option.map_some, rX43_1, kX44, nX44, w0, w55_2, w1, w55_1, xp_W_isState, w73]
  refine dY (st1 (show fr < 1024 by omega)) ?_
  refine PW_blk okW_explore 2 rfl SpX_ok ?_
  simp only [wL0, wLc, true_and, w2, lg0, lgi, lgr, lgl, w35, kX43, rX43_1, kX44, nX44, w1, w0, w40, w4, ls00, ls0i, ls0r, ls0l, lsi, lsr, lsl, Option.map_some, tn0, w71, v1024 (show fr < 1024 by omega), c1024 (show fr < 1024 by omega), si_sr]
  have ne0 : ¬ (0 : Int32) = -1 := by decide
  have base : TabU (sr σ 44 (upd r fr 0)) S fr fr := by
    intro t ht
    rw [sr1]
    refine ⟨fun h1' h2' => absurd (rch_ge hn10 h2') (by omega), fun h1' _ => ?_, fun _ h2' => ?_, fun _ h2' => ?_⟩
    · rw [updN (by omega)]
      exact h1 t ht
    · have e : t = fr := by
        rcases h2' with e | ⟨p, k, a, _, d, _⟩
        · exact e
        · exact absurd (rch_ge hn10 d) (by omega)
      subst e
      exact updS
    · rw [updN (fun e => h2' (Or.inl e))]
      exact h1 t ht
  have key := lp_up (n := 2 ^ nv S 3) (P := fun s => fr ≤ s → ∀ σ', Wf σ σ' → σ'.1 43 = σ.1 43 → σ'.1 50 = σ.1 50 → TabU σ' S fr s → PW 0 ev mW_explore 33 [.ref 43, .int (nI fr), .int (nI (2 ^ nv S 3 - 1)), .int (nI s)] [] σ' K) ?_ ?_ fr (by omega) (Nat.le_refl _) (sr σ 44 (upd r fr 0)) (Wf_sr (by decide) Wf_r) (sr1n (by decide)) (sr1n (by decide)) base
  · exact key
  · intro _ σ' hW w43 w50 hU
    refine PW_blk okW_explore 3 rfl SpX_ok ?_
    simp only [wL0, wLc, true_and, w1, lg0, lgi, lgr, lgl, w82]
    refine b2Y (nI_lt (by omega) (by omega)) ?_
    refine PW_blk okW_explore 8 rfl SpX_ok ?_
    simp only [wL0, w87]
    refine hk σ' hW w43 w50 (fun t ht => ?_)
    obtain ⟨u1, u2, u3, u4⟩ := hU t ht
    by_cases c : t < 2 ^ nv S 3
    · exact ⟨u1 c, u2 c⟩
    · have hno : ¬ rch S fr t := fun z => c (rch_lt hn10 hf z)
      refine ⟨fun z => absurd z hno, fun _ => u4 (by omega) (fun z => ?_)⟩
      rcases z with e | ⟨p, k, a, b, d, e⟩
      · exact hno (by rw [e]; exact rch_fr hn10)
      · exact hno (by rw [e]; exact rch_to hn10 b d)
  · intro s hs ih hfs σ' hW w43 w50 hU
    have hs10 : s < 1024 := by omega
    obtain ⟨u1, u2, u3, u4⟩ := hU s hs10
    have hX' : XC σ' 1 S := Wf_X hW hX
    refine PW_blk okW_explore 3 rfl SpX_ok ?_
    simp only [wL0, wLc, true_and, w1, lg0, lgi, lgr, lgl, w82]
    refine b2N (nI_nlt (by omega) (by omega)) ?_
    refine PW_blk okW_explore 4 rfl SpX_ok ?_
    simp only [wL0, wLc, true_and, w1, lg0, lgi, lgr, lgl, w0, w81]
    refine b3Y (nI_lt hs10 (by decide)) ?_
    refine PW_blk okW_explore 5 rfl SpX_ok ?_
    simp only [wL0, wLc, true_and, w2, lg0, lgi, lgr, lgl, w35, kX43, rX43_1, kX44, nX44, w1, w39, w0, w78, v1024 hs10, c1024 hs10]
    by_cases c : rch S fr s
    rotate_left
    · have hq : ¬ Qr S fr s s := fun z => c ((rch_iff hn10).mpr z)
      refine b2Y (u4 (Nat.le_refl _) hq) ?_
      refine PW_blk okW_explore 7 rfl SpX_ok ?_
      simp only [wL0, wLc, true_and, w7, lg0, lgi, lgr, lgl, ls00, ls0i, ls0r, ls0l, lsi, lsr, lsl, Option.map_some, w70]
      rw [show (1 : Int32) = nI 1 from rfl, nI_add]
      refine ih (by omega) σ' hW w43 w50 (fun t ht => ?_)
      obtain ⟨g1, g2, g3, g4⟩ := hU t ht
      have eQ : Qr S fr (s + 1) t → Qr S fr s t := fun z => by
        rcases z with e | ⟨p, k, a, b, d, e⟩
        · exact Or.inl e
        · by_cases e2 : p = s
          · subst e2; exact absurd d c
          · exact Or.inr ⟨p, k, by omega, b, d, e⟩
      have eQ2 : Qr S fr s t → Qr S fr (s + 1) t := fun z => by
        rcases z with e | ⟨p, k, a, b, d, e⟩
        · exact Or.inl e
        · exact Or.inr ⟨p, k, by omega, b, d, e⟩
      refine ⟨fun z1 z2 => ?_, fun z1 z2 => ?_, fun z1 z2 => g3 (by omega) (eQ z2), fun z1 z2 => g4 (by omega) (fun y => z2 (eQ2 y))⟩
      · by_cases e : t = s
        · subst e; exact absurd z2 c
        · exact g1 (by omega) z2
      · by_cases e : t = s
        · subst e; exact g4 (Nat.le_refl _) hq
        · exact g2 (by omega) z2
    have hq : Qr S fr s s := (rch_iff hn10).mp c
    refine b2N (by rw [u3 (Nat.le_refl _) hq]; exact ne0) ?_
    have hml := mayN_lt S s
    have hfr4 := frN_lt S s
    refine PW_blk okW_explore 6 rfl SpX_ok ?_
    simp only [wL0, wLc, true_and, w2, lg0, lgi, lgr, lgl, w35, kX43, rX43_2, kX45, nX45, w1, rX43_0, w54_2, q40, q41, q42, q43, q44, Option.toList_some, Option.toList_none, List.cons_append, List.nil_append, w40, rX43_3, kX46, nX46, w55_1, xp_JI_bitCount, rX43_1, kX44, nX44, w39, w54_4, w54_3, w71]
    refine X_slackAt hc hX' hI hs10 ?_
    simp only [wL0, wLc, true_and, w2, lg0, lgi, lgr, lgl, w35, kX43, rX43_2, kX45, nX45, w1, rX43_0, w54_2, q40, q41, q42, q43, q44, Option.toList_some, Option.toList_none, List.cons_append, List.nil_append, w40, rX43_3, kX46, nX46, w55_1, xp_JI_bitCount, rX43_1, kX44, nX44, w39, w54_4, w54_3, w71, v1024 hs10, c1024 hs10, si_is]
    refine X_freeAt hc (Wf_X (Wf_sr (by decide) hW) hX) hI hs10 ?_
    simp only [wL0, wLc, true_and, w2, lg0, lgi, lgr, lgl, w35, kX43, rX43_2, kX45, nX45, w1, rX43_0, w54_2, q40, q41, q42, q43, q44, Option.toList_some, Option.toList_none, List.cons_append, List.nil_append, w40, rX43_3, kX46, nX46, w55_1, xp_JI_bitCount, rX43_1, kX44, nX44, w39, w54_4, w54_3, w71, v1024 hs10, c1024 hs10, si_is, bcF_n (frN S s) (by omega), sr1, updS, sr1n (show 45 ≠ 46 by decide), sr1n (show 46 ≠ 45 by decide)]
    refine X_mayWith hc (Wf_X (Wf_sr (by decide) (Wf_sr (by decide) hW)) hX) hI hs10 ?_
    simp only [wL0, wLc, true_and, w2, lg0, lgi, lgr, lgl, w35, kX43, rX43_2, kX45, nX45, w1, rX43_0, w54_2, q40, q41, q42, q43, q44, Option.toList_some, Option.toList_none, List.cons_append, List.nil_append, w40, rX43_3, kX46, nX46, w55_1, xp_JI_bitCount, rX43_1, kX44, nX44, w39, w54_4, w54_3, w71, v1024 hs10, c1024 hs10, si_is, sr1, updS, sr1n (show 44 ≠ 46 by decide), sr1n (show 44 ≠ 45 by decide)]
    refine X_markFollowers hs10 (by omega) ?_
    simp only [wL0, wLc, true_and, w2, lg0, lgi, lgr, lgl, w35, kX43, rX43_2, kX45, nX45, w1, rX43_0, w54_2, q40, q41, q42, q43, q44, Option.toList_some, Option.toList_none, List.cons_append, List.nil_append, w40, rX43_3, kX46, nX46, w55_1, xp_JI_bitCount, rX43_1, kX44, nX44, w39, w54_4, w54_3, w71, sr1, sr_sr]
    refine PW_blk okW_explore 7 rfl SpX_ok ?_
    simp only [wL0, wLc, true_and, w7, lg0, lgi, lgr, lgl, ls00, ls0i, ls0r, ls0l, lsi, lsr, lsl, Option.map_some, w70]
    rw [show (1 : Int32) = nI 1 from rfl, nI_add]
    refine ih (by omega) _ (Wf_sr (by decide) (Wf_sr (by decide) (Wf_sr (by decide) hW))) (by rw [sr1n (by decide), sr1n (by decide), sr1n (by decide)]; exact w43) (by rw [sr1n (by decide), sr1n (by decide), sr1n (by decide)]; exact w50) (fun t ht => ?_)
    obtain ⟨g1, g2, g3, g4⟩ := hU t ht
    rw [sr1, sr1n (show 45 ≠ 44 by decide), sr1n (show 45 ≠ 46 by decide), sr1, sr1n (show 46 ≠ 44 by decide), sr1]
    have bits : ∀ k, (mayN S s).testBit k = true → k < 10 ∧ s < s ||| 2 ^ k := fun k hb => by
      have h2 := mayN_bit.mp hb
      exact ⟨by omega, or_gt (why_bit h2.2)⟩
    have mk_no : t ≤ s → mkF (upd (σ'.1 44) s (nI (mayN S s))) s (mayN S s) 10 t = upd (σ'.1 44) s (nI (mayN S s)) t := fun hle => by
      unfold mkF
      rw [cif_n (fun ⟨k, _, b, e⟩ => by have := (bits k b).2; omega)]
    refine ⟨fun z1 z2 => ?_, fun z1 z2 => ?_, fun z1 z2 => ?_, fun z1 z2 => ?_⟩
    · rw [mk_no (by omega)]
      by_cases e : t = s
      · subst e
        rw [updS, updS, updS]
        exact ⟨rfl, rfl, rfl⟩
      · rw [updN e, updN e, updN e]
        exact g1 (by omega) z2
    · rw [mk_no (by omega)]
      by_cases e : t = s
      · subst e; exact absurd c z2
      · rw [updN e]
        exact g2 (by omega) z2
    · unfold mkF
      by_cases h : ∃ k, k < 10 ∧ (mayN S s).testBit k = true ∧ t = s ||| 2 ^ k
      · rw [cif_y h]
      · rw [cif_n h, updN (by omega)]
        refine g3 (by omega) ?_
        rcases z2 with e | ⟨p, k, a, b, d, e⟩
        · exact Or.inl e
        · by_cases e2 : p = s
          · subst e2; exact absurd ⟨k, (bits k b).1, b, e⟩ h
          · exact Or.inr ⟨p, k, by omega, b, d, e⟩
    · unfold mkF
      rw [cif_n (fun ⟨k, _, b, e⟩ => z2 (Or.inr ⟨s, k, Nat.lt_succ_self s, b, c, e⟩)), updN (by omega)]
      refine g4 (by omega) (fun y => z2 ?_)
      rcases y with e | ⟨p, k, a, b, d, e⟩
      · exact Or.inl e
      · exact Or.inr ⟨p, k, by omega, b, d, e⟩
end WX
