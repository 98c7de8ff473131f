/-! the class's ways: what can be come to, and sums over it -/
/-- nothing but the cells of the ways and the smith has changed -/
def Wf (σ σ' : St2) : Prop := ∀ i, ¬ (43 ≤ i ∧ i ≤ 50) → σ'.1 i = σ.1 i
theorem Wf_r {σ : St2} : Wf σ σ := fun _ _ => rfl
theorem Wf_sr {k : Nat} {σ σ' : St2} {r : Nat → Int32} (hk : 43 ≤ k ∧ k ≤ 50) (h : Wf σ σ') : Wf σ (sr σ' k r) := fun i hi => by
  rw [sr1n (k := k) (i := i) (fun e => hi (by rw [e]; exact hk))]
  exact h i hi
theorem Wf_t {a b d : St2} (h : Wf a b) (h2 : Wf b d) : Wf a d := fun i hi => (h2 i hi).trans (h i hi)
theorem Wf_X {σ σ' : St2} {S : Nat → Int32} (h : Wf σ σ') (hX : XC σ 1 S) : XC σ' 1 S := XC_cong (fun i h1 h2 => h i (by omega)) hX
def rch (S : Nat → Int32) (fr t : Nat) : Prop := cw S 0 fr t ≠ 0
theorem okW0 {S : Nat → Int32} {s k : Nat} : okW S 0 s k ↔ (mayN S s).testBit k = true := by
  rw [mayN_bit]
  exact ⟨fun h => ⟨h.1, h.2.1⟩, fun h => ⟨h.1, h.2, fun z => absurd rfl z⟩⟩
theorem rch_iff {S : Nat → Int32} {fr t : Nat} (hn : nv S 3 ≤ 10) : rch S fr t ↔ t = fr ∨ ∃ p k, p < t ∧ (mayN S p).testBit k = true ∧ rch S fr p ∧ t = p ||| 2 ^ k := by
  have ho := okW_p (S := S) (stop := 0) hn
  constructor
  · intro h
    rcases fw_from (ok := okW S 0) (fr := fr) (s := t) (t := t) h with e | ⟨p, k, a, b, d, e⟩
    · exact Or.inl e
    · exact Or.inr ⟨p, k, a, okW0.mp d, e, b⟩
  · intro h
    rcases h with e | ⟨p, k, a, b, d, e⟩
    · subst e
      show fw (okW S 0) t t t ≠ 0
      rw [fw_first ho (Nat.le_refl _)]
      show (if t = t then 1 else 0) ≠ 0
      rw [if_pos rfl]
      decide
    · subst e
      exact fw_to ho (okW0.mpr b) d
theorem rch_sub {S : Nat → Int32} {fr t : Nat} (hn : nv S 3 ≤ 10) (h : rch S fr t) : fr &&& t = fr := fw_sub (okW_p hn) h
theorem rch_lt {S : Nat → Int32} {fr t : Nat} (hn : nv S 3 ≤ 10) (hf : fr < 2 ^ nv S 3) (h : rch S fr t) : t < 2 ^ nv S 3 := fw_lt (okW_p hn) (fun s k h => h.1) hf h
theorem rch_ge {S : Nat → Int32} {fr t : Nat} (hn : nv S 3 ≤ 10) (h : rch S fr t) : fr ≤ t := by
  have := rch_sub hn h
  have h2 : fr &&& t ≤ t := Nat.and_le_right
  omega
theorem rch_to {S : Nat → Int32} {fr p k : Nat} (hn : nv S 3 ≤ 10) (hb : (mayN S p).testBit k = true) (h : rch S fr p) : rch S fr (p ||| 2 ^ k) := fw_to (okW_p hn) (okW0.mpr hb) h
theorem rch_fr {S : Nat → Int32} {fr : Nat} (hn : nv S 3 ≤ 10) : rch S fr fr := (rch_iff hn).mpr (Or.inl rfl)
/-- what the ways hold, explored from fr on -/
def Tab (σ : St2) (S : Nat → Int32) (fr : Nat) : Prop := ∀ t, t < 1024 → (rch S fr t → σ.1 44 t = nI (mayN S t) ∧ σ.1 45 t = nI (slackN S t) ∧ σ.1 46 t = nI (hdN S t)) ∧ (¬ rch S fr t → σ.1 44 t = -1)
theorem v1024 {k : Nat} (h : k < 1024) : vp_in (nI k) 1024 = True := eq_true (vp_in_nI h (by decide))
theorem c1024 {k : Nat} (h : k < 1024) : (nI k).toNatClampNeg = k := nI_clamp (by omega)
/-- a row with 0 at all that one lock more of a set comes to -/
noncomputable def mkF (r : Nat → Int32) (s M m : Nat) : Nat → Int32 := fun t => cif (∃ k, k < m ∧ M.testBit k = true ∧ t = s ||| 2 ^ k) 0 (r t)
theorem mkF_0 {r : Nat → Int32} {s M : Nat} : mkF r s M 0 = r := by
  funext t
  unfold mkF
  rw [cif_n (fun ⟨k, h, _⟩ => absurd h (Nat.not_lt_zero k))]
theorem mkF_y {r : Nat → Int32} {s M m : Nat} (hb : M.testBit m = true) : upd (mkF r s M m) (s ||| 2 ^ m) 0 = mkF r s M (m + 1) := by
  funext t
  rw [updI]
  unfold mkF
  by_cases h : t = s ||| 2 ^ m
  · rw [if_pos h, cif_y ⟨m, Nat.lt_succ_self m, hb, h⟩]
  · rw [if_neg h]
    by_cases h2 : ∃ k, k < m ∧ M.testBit k = true ∧ t = s ||| 2 ^ k
    · obtain ⟨k, a, b, d⟩ := h2
      rw [cif_y ⟨k, a, b, d⟩, cif_y ⟨k, by omega, b, d⟩]
    · rw [cif_n h2, cif_n (fun ⟨k, a, b, d⟩ => by
        by_cases e : k = m
        · subst e; exact h d
        · exact h2 ⟨k, by omega, b, d⟩)]
theorem mkF_n {r : Nat → Int32} {s M m : Nat} (hb : ¬ M.testBit m = true) : mkF r s M m = mkF r s M (m + 1) := by
  funext t
  unfold mkF
  by_cases h2 : ∃ k, k < m ∧ M.testBit k = true ∧ t = s ||| 2 ^ k
  · obtain ⟨k, a, b, d⟩ := h2
    rw [cif_y ⟨k, a, b, d⟩, cif_y ⟨k, by omega, b, d⟩]
  · rw [cif_n h2, cif_n (fun ⟨k, a, b, d⟩ => by
      by_cases e : k = m
      · subst e; exact hb b
      · exact h2 ⟨k, by omega, b, d⟩)]
section WX
variable {ev : EV} {σ : St2} {K : PO} {S : Nat → Int32}
theorem X_markFollowers {s M : Nat} (hs : s < 1024) (hM : M < 1024) (hk : K none (sr σ 44 (mkF (σ.1 44) s M 10))) : Rn 0 ev mW_markFollowers [.ref 43, .int (nI s), .int (nI M)] σ K := by
  refine Rn_V (by decide) rc4 rfl rfl ?_
  refine PW_blk okW_markFollowers 0 rfl SpX_ok ?_
  simp only [wL0, wLc, true_and, w0, w4, ls00, ls0i, ls0r, ls0l, lsi, lsr, lsl, Option.map_some, w71]
  have key := lp_up (n := 10) (P := fun m => PW 0 ev mW_markFollowers 2 [.ref 43, .int (nI s), .int (nI M), .int (nI m)] [] (sr σ 44 (mkF (σ.1 44) s M m)) K) ?_ ?_ 0 (by decide)
  · rw [mkF_0, sr_self] at key
    exact key
  · refine PW_blk okW_markFollowers 1 rfl SpX_ok ?_
    simp only [wL0, wLc, true_and, w1, lg0, lgi, lgr, lgl, w0, w81]
    refine b3N (by decide) ?_
    refine PW_blk okW_markFollowers 5 rfl SpX_ok ?_
    simp only [wL0, w87]
    exact hk
  · intro m hm ih
    refine PW_blk okW_markFollowers 1 rfl SpX_ok ?_
    simp only [wL0, wLc, true_and, w1, lg0, lgi, lgr, lgl, w0, w81]
    refine b3Y (nI_lt hm (by decide)) ?_
    refine PW_blk okW_markFollowers 2 rfl SpX_ok ?_
    simp only [wL0, wLc, true_and, w1, lg0, lgi, lgr, lgl, w20, w0, w16, w72]
    rw [bit1 (by omega) (by omega)]
    by_cases hb : M.testBit m = true
    · refine bY1 hb ?_
      have hlt : s ||| 2 ^ m < 2 ^ 10 := or_lt hs hm
      refine PW_blk okW_markFollowers 3 rfl SpX_ok ?_
      simp only [wL0, wLc, true_and, w2, lg0, lgi, lgr, lgl, w35, kX43, rX43_1, kX44, nX44, w1, w0, w19, w17, w40, tn0, tn1, w71, nI_sh1 m (by omega), fa_or, v1024 (show s ||| 2 ^ m < 1024 from hlt), c1024 (show s ||| 2 ^ m < 1024 from hlt), si_sr]
      refine PW_blk okW_markFollowers 4 rfl SpX_ok ?_
      simp only [wL0, wLc, true_and, w7, lg0, lgi, lgr, lgl, ls00, ls0i, ls0r, ls0l, lsi, lsr, lsl, Option.map_some, w70]
      rw [mkF_y hb, show (1 : Int32) = nI 1 from rfl, nI_add]
      exact ih
    · refine bN1 hb ?_
      refine PW_blk okW_markFollowers 4 rfl SpX_ok ?_
      simp only [wL0, wLc, true_and, w7, lg0, lgi, lgr, lgl, ls00, ls0i, ls0r, ls0l, lsi, lsr, lsl, Option.map_some, w70]
      rw [mkF_n hb, show (1 : Int32) = nI 1 from rfl, nI_add]
      exact ih
theorem X_explore {fr : Nat} (hX : XC σ 1 S) (hI : Inv S) (hf : fr < 2 ^ nv S 3) (hk : ∀ σ', Wf σ σ' → σ'.1 43 = σ.1 43 → σ'.1 50 = σ.1 50 → Tab σ' S fr → K none σ') : Rn 0 ev mW_explore [.ref 43, .int (nI fr)] σ K := by
  have hn10 := hI.1.2
  have hT := p2le _ hn10
  have hc := CH1
  refine Rn_V (by decide) rc4 rfl rfl ?_
  refine PW_blk okW_explore 0 rfl SpX_ok ?_
  simp only [wL0, wLc, true_and, w2, lg0, lgi, lgr, lgl, w35, kX43, rX43_0, w54_1, q40, q41, q42, q43, q44, Option.toList_some, Option.toList_none, List.cons_append, List.nil_append, xp_C_allLocks, CH_e hc, w4, ls00, ls0i, ls0r, ls0l, lsi, lsr, lsl, Option.map_some, rX43_1, kX44, nX44, w0, w55_2, w1, w74, x3 hX hI, alF_n _ (show nv S 3 < 31 by omega)]
  refine X_fill (k := 44) (n := 1024) kX44 nX44 (by decide) (fun r h1 _ => ?_)
  simp only [wL0, wLc, true_and, w2, lg0, lgi, lgr, lgl, w35, kX43, rX43_0, w54_1, q40, q41, q42, q43, q44, Option.toList_some, Option.toList_none, List.cons_append, List.nil_append, xp_C_allLocks, CH_e hc, w4, ls00, ls0i, ls0r, ls0l, lsi, lsr, lsl, Option.map_some, rX43_1, kX44, nX44, w0, w55_2, w1, w74]
  refine b2N (lt0 (by omega)) ?_
  refine PW_blk okW_explore 1 rfl SpX_ok ?_
  simp only [wL0, wLc, true_and, w1, lg0, lgi, lgr, lgl, w0, w81]
  refine b3Y (nI_lt (show fr < 1024 by omega) (by decide)) ?_
  refine PW_blk okW_explore 2 rfl SpX_ok ?_
  simp only [wL0, wLc, true_and, w1, lg0, lgi, lgr, lgl, w0, w80]
  refine b2Y (nI_lt (show 2 ^ nv S 3 - 1 < 1024 by omega) (by decide)) ?_
  refine PW_blk okW_explore 4 rfl SpX_ok ?_
  simp only [wL0, wLc, true_and, w2, lg0, lgi, lgr, lgl, w35, kX43, rX43_1, kX44, nX44, w1, w0, w40, w4, ls00, ls0i, ls0r, ls0l, lsi, lsr, lsl, Option.map_some, tn0, w71, v1024 (show fr < 1024 by omega), c1024 (show fr < 1024 by omega), si_sr]
  sorry
end WX
