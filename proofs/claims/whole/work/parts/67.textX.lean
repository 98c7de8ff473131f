/-! the class reads items, a text -/
/-- nothing but the draft and the tape's own cell has changed -/
def Df (σ σ' : St2) : Prop := ∀ i, i ≠ 51 → ¬ (29 ≤ i ∧ i ≤ 42) → σ'.1 i = σ.1 i
theorem Df_r {σ : St2} : Df σ σ := fun _ _ _ => rfl
theorem Df_t {a b d : St2} (h : Df a b) (h2 : Df b d) : Df a d := fun i h1 h3 => (h2 i h1 h3).trans (h i h1 h3)
theorem Df_q {a b : St2} {q : Nat → Int32} (h : Df a b) : Df a (sr b 51 q) := fun i h1 h2 => by
  rw [sr1n h1]
  exact h i h1 h2
theorem Df_C {a b d : St2} (h : Df a b) (hC : Cf 29 b d) : Df a d := fun i h1 h2 => (hC i h2).trans (h i h1 h2)
def kdx (kd : Nat) : Nat := if kd = 0 then 6 else kd - 1
theorem kdx_w : ∀ kd, kd < 7 → kdx kd < 16 ∧ wI (kdx kd) = wK kd := by decide +kernel
theorem rdx_w : ∀ w, w < 3 → wI (7 + w) = wR w := by decide +kernel
theorem odx_w : ∀ w, w < 6 → wI (10 + w) = wO w := by decide +kernel
/-- the class's reading stands at this token -/
def XR (σ : St2) (T : Nat → Int32) (τ : Nat) (tk : Tk) : Prop := (∀ i, i < 120 → σ.1 52 i = T i) ∧ XK (σ.1 51) τ tk ∧ tkv T τ tk
theorem tkv_4 {T : Nat → Int32} {τ : Nat} {tk : Tk} (h : tkv T τ tk) : tk.1 ≤ 4 := by
  obtain ⟨p, hp, e⟩ := h
  rw [e]
  exact (tok_ok hp).2.2.2.2.1
theorem tkv_n {T : Nat → Int32} {τ : Nat} {tk : Tk} (h : tkv T τ tk) : tk.2.2.2 ≤ 1024 ∧ (tk.1 = 2 → tk.2.2.2 ≤ 1023) := by
  obtain ⟨p, hp, e⟩ := h
  rw [e]
  exact ⟨(tok_ok hp).2.2.2.1, (tok_ok hp).2.2.2.2.2.2⟩
section UX
variable {ev : EV} {σ : St2} {K : PO} {S : Nat → Int32}
theorem X_next {T : Nat → Int32} {τ : Nat} {tk : Tk} (hτ : τ ≤ 120) (hR : XR σ T τ tk) (hk : ∀ q, XR (sr σ 51 q) T τ (tok T τ tk.2.2.1) → K none (sr σ 51 q)) : Rn 0 ev mT_nextToken [.ref 51] σ K := by
  obtain ⟨h52, hq, hv⟩ := hR
  have hw := tkw_v hv
  refine X_nextToken hτ h52 hq.1 hq.2.2.1 hw.2 (fun q hq2 => ?_)
  exact hk q ⟨by rw [sr1n (by decide)]; exact h52, by rw [sr1]; exact hq2, ⟨_, hw.2, rfl⟩⟩
theorem X_kindWord {kd : Nat} (h : kd < 7) (hk : K (some (.ref (300 + kdx kd))) σ) : Rn 0 ev mT_kindWord [.int (nI kd)] σ K := by
  refine Rn_S (by decide) rfl rfl rfl ?_
  refine PW_blk okT_kindWord 0 rfl SpX_ok ?_
  simp only [wL0, wLc, true_and, w1, lg0, lgi, lgr, lgl, w90, wS0, wSc]
  rcases (show kd = 0 ∨ kd = 1 ∨ kd = 2 ∨ kd = 3 ∨ kd = 4 ∨ kd = 5 ∨ kd = 6 by omega) with rfl | rfl | rfl | rfl | rfl | rfl | rfl
  · skip
    refine ⟨fun h => absurd h (by decide), fun _ => ?_⟩
    refine ⟨fun h => absurd h (by decide), fun _ => ?_⟩
    refine ⟨fun h => absurd h (by decide), fun _ => ?_⟩
    refine ⟨fun h => absurd h (by decide), fun _ => ?_⟩
    refine ⟨fun h => absurd h (by decide), fun _ => ?_⟩
    refine ⟨fun h => absurd h (by decide), fun _ => ?_⟩
    refine PW_blk okT_kindWord 7 rfl SpX_ok ?_
    simp only [wL0, wLc, true_and, w48, w88]
    exact hk
  · refine ⟨fun _ => ?_, fun h => absurd rfl h⟩
    refine PW_blk okT_kindWord 1 rfl SpX_ok ?_
    simp only [wL0, wLc, true_and, w48, w88]
    exact hk
  · refine ⟨fun h => absurd h (by decide), fun _ => ?_⟩
    refine ⟨fun _ => ?_, fun h => absurd rfl h⟩
    refine PW_blk okT_kindWord 2 rfl SpX_ok ?_
    simp only [wL0, wLc, true_and, w48, w88]
    exact hk
  · refine ⟨fun h => absurd h (by decide), fun _ => ?_⟩
    refine ⟨fun h => absurd h (by decide), fun _ => ?_⟩
    refine ⟨fun _ => ?_, fun h => absurd rfl h⟩
    refine PW_blk okT_kindWord 3 rfl SpX_ok ?_
    simp only [wL0, wLc, true_and, w48, w88]
    exact hk
  · refine ⟨fun h => absurd h (by decide), fun _ => ?_⟩
    refine ⟨fun h => absurd h (by decide), fun _ => ?_⟩
    refine ⟨fun h => absurd h (by decide), fun _ => ?_⟩
    refine ⟨fun _ => ?_, fun h => absurd rfl h⟩
    refine PW_blk okT_kindWord 4 rfl SpX_ok ?_
    simp only [wL0, wLc, true_and, w48, w88]
    exact hk
  · refine ⟨fun h => absurd h (by decide), fun _ => ?_⟩
    refine ⟨fun h => absurd h (by decide), fun _ => ?_⟩
    refine ⟨fun h => absurd h (by decide), fun _ => ?_⟩
    refine ⟨fun h => absurd h (by decide), fun _ => ?_⟩
    refine ⟨fun _ => ?_, fun h => absurd rfl h⟩
    refine PW_blk okT_kindWord 5 rfl SpX_ok ?_
    simp only [wL0, wLc, true_and, w48, w88]
    exact hk
  · refine ⟨fun h => absurd h (by decide), fun _ => ?_⟩
    refine ⟨fun h => absurd h (by decide), fun _ => ?_⟩
    refine ⟨fun h => absurd h (by decide), fun _ => ?_⟩
    refine ⟨fun h => absurd h (by decide), fun _ => ?_⟩
    refine ⟨fun h => absurd h (by decide), fun _ => ?_⟩
    refine ⟨fun _ => ?_, fun h => absurd rfl h⟩
    refine PW_blk okT_kindWord 6 rfl SpX_ok ?_
    simp only [wL0, wLc, true_and, w48, w88]
    exact hk
theorem X_ruleWord {w : Nat} (h : w < 3) (hk : K (some (.ref (300 + (7 + w)))) σ) : Rn 0 ev mT_ruleWord [.int (nI w)] σ K := by
  refine Rn_S (by decide) rfl rfl rfl ?_
  refine PW_blk okT_ruleWord 0 rfl SpX_ok ?_
  simp only [wL0, wLc, true_and, w1, lg0, lgi, lgr, lgl, w91, wS0, wSc]
  rcases (show w = 0 ∨ w = 1 ∨ w = 2 by omega) with rfl | rfl | rfl
  · refine ⟨fun _ => ?_, fun h => absurd rfl h⟩
    refine PW_blk okT_ruleWord 1 rfl SpX_ok ?_
    simp only [wL0, wLc, true_and, w48, w88]
    exact hk
  · refine ⟨fun h => absurd h (by decide), fun _ => ?_⟩
    refine ⟨fun _ => ?_, fun h => absurd rfl h⟩
    refine PW_blk okT_ruleWord 2 rfl SpX_ok ?_
    simp only [wL0, wLc, true_and, w48, w88]
    exact hk
  · skip
    refine ⟨fun h => absurd h (by decide), fun _ => ?_⟩
    refine ⟨fun h => absurd h (by decide), fun _ => ?_⟩
    refine PW_blk okT_ruleWord 3 rfl SpX_ok ?_
    simp only [wL0, wLc, true_and, w48, w88]
    exact hk
theorem X_optionWord {w : Nat} (h : w < 6) (hk : K (some (.ref (300 + (10 + w)))) σ) : Rn 0 ev mT_optionWord [.int (nI w)] σ K := by
  refine Rn_S (by decide) rfl rfl rfl ?_
  refine PW_blk okT_optionWord 0 rfl SpX_ok ?_
  simp only [wL0, wLc, true_and, w1, lg0, lgi, lgr, lgl, w90, wS0, wSc]
  rcases (show w = 0 ∨ w = 1 ∨ w = 2 ∨ w = 3 ∨ w = 4 ∨ w = 5 by omega) with rfl | rfl | rfl | rfl | rfl | rfl
  · refine ⟨fun _ => ?_, fun h => absurd rfl h⟩
    refine PW_blk okT_optionWord 1 rfl SpX_ok ?_
    simp only [wL0, wLc, true_and, w48, w88]
    exact hk
  · refine ⟨fun h => absurd h (by decide), fun _ => ?_⟩
    refine ⟨fun _ => ?_, fun h => absurd rfl h⟩
    refine PW_blk okT_optionWord 2 rfl SpX_ok ?_
    simp only [wL0, wLc, true_and, w48, w88]
    exact hk
  · refine ⟨fun h => absurd h (by decide), fun _ => ?_⟩
    refine ⟨fun h => absurd h (by decide), fun _ => ?_⟩
    refine ⟨fun _ => ?_, fun h => absurd rfl h⟩
    refine PW_blk okT_optionWord 3 rfl SpX_ok ?_
    simp only [wL0, wLc, true_and, w48, w88]
    exact hk
  · refine ⟨fun h => absurd h (by decide), fun _ => ?_⟩
    refine ⟨fun h => absurd h (by decide), fun _ => ?_⟩
    refine ⟨fun h => absurd h (by decide), fun _ => ?_⟩
    refine ⟨fun _ => ?_, fun h => absurd rfl h⟩
    refine PW_blk okT_optionWord 4 rfl SpX_ok ?_
    simp only [wL0, wLc, true_and, w48, w88]
    exact hk
  · refine ⟨fun h => absurd h (by decide), fun _ => ?_⟩
    refine ⟨fun h => absurd h (by decide), fun _ => ?_⟩
    refine ⟨fun h => absurd h (by decide), fun _ => ?_⟩
    refine ⟨fun h => absurd h (by decide), fun _ => ?_⟩
    refine ⟨fun _ => ?_, fun h => absurd rfl h⟩
    refine PW_blk okT_optionWord 5 rfl SpX_ok ?_
    simp only [wL0, wLc, true_and, w48, w88]
    exact hk
  · skip
    refine ⟨fun h => absurd h (by decide), fun _ => ?_⟩
    refine ⟨fun h => absurd h (by decide), fun _ => ?_⟩
    refine ⟨fun h => absurd h (by decide), fun _ => ?_⟩
    refine ⟨fun h => absurd h (by decide), fun _ => ?_⟩
    refine ⟨fun h => absurd h (by decide), fun _ => ?_⟩
    refine PW_blk okT_optionWord 6 rfl SpX_ok ?_
    simp only [wL0, wLc, true_and, w48, w88]
    exact hk
theorem X_optionTrait {w : Nat} (h : w < 6) (hk : K (some (.int (nI (fldO w)))) σ) : Rn 0 ev mT_optionTrait [.int (nI w)] σ K := by
  refine Rn_S (by decide) rfl rfl rfl ?_
  refine PW_blk okT_optionTrait 0 rfl SpX_ok ?_
  simp only [wL0, wLc, true_and, w1, lg0, lgi, lgr, lgl, w90, wS0, wSc]
  rcases (show w = 0 ∨ w = 1 ∨ w = 2 ∨ w = 3 ∨ w = 4 ∨ w = 5 by omega) with rfl | rfl | rfl | rfl | rfl | rfl
  · refine ⟨fun _ => ?_, fun h => absurd rfl h⟩
    refine PW_blk okT_optionTrait 1 rfl SpX_ok ?_
    simp only [wL0, wLc, true_and, w0, w84]
    exact hk
  · refine ⟨fun h => absurd h (by decide), fun _ => ?_⟩
    refine ⟨fun _ => ?_, fun h => absurd rfl h⟩
    refine PW_blk okT_optionTrait 2 rfl SpX_ok ?_
    simp only [wL0, wLc, true_and, w0, w84]
    exact hk
  · refine ⟨fun h => absurd h (by decide), fun _ => ?_⟩
    refine ⟨fun h => absurd h (by decide), fun _ => ?_⟩
    refine ⟨fun _ => ?_, fun h => absurd rfl h⟩
    refine PW_blk okT_optionTrait 3 rfl SpX_ok ?_
    simp only [wL0, wLc, true_and, w0, w84]
    exact hk
  · refine ⟨fun h => absurd h (by decide), fun _ => ?_⟩
    refine ⟨fun h => absurd h (by decide), fun _ => ?_⟩
    refine ⟨fun h => absurd h (by decide), fun _ => ?_⟩
    refine ⟨fun _ => ?_, fun h => absurd rfl h⟩
    refine PW_blk okT_optionTrait 4 rfl SpX_ok ?_
    simp only [wL0, wLc, true_and, w0, w84]
    exact hk
  · refine ⟨fun h => absurd h (by decide), fun _ => ?_⟩
    refine ⟨fun h => absurd h (by decide), fun _ => ?_⟩
    refine ⟨fun h => absurd h (by decide), fun _ => ?_⟩
    refine ⟨fun h => absurd h (by decide), fun _ => ?_⟩
    refine ⟨fun _ => ?_, fun h => absurd rfl h⟩
    refine PW_blk okT_optionTrait 5 rfl SpX_ok ?_
    simp only [wL0, wLc, true_and, w0, w84]
    exact hk
  · skip
    refine ⟨fun h => absurd h (by decide), fun _ => ?_⟩
    refine ⟨fun h => absurd h (by decide), fun _ => ?_⟩
    refine ⟨fun h => absurd h (by decide), fun _ => ?_⟩
    refine ⟨fun h => absurd h (by decide), fun _ => ?_⟩
    refine ⟨fun h => absurd h (by decide), fun _ => ?_⟩
    refine PW_blk okT_optionTrait 6 rfl SpX_ok ?_
    simp only [wL0, wLc, true_and, w0, w84]
    exact hk
theorem XR_C {T : Nat → Int32} {τ : Nat} {tk : Tk} {σ' : St2} (hC : Cf 29 σ σ') (h : XR σ T τ tk) : XR σ' T τ tk := by
  unfold XR
  rw [hC 52 (by decide), hC 51 (by decide)]
  exact h
theorem X_q {q : Nat → Int32} (h : XC σ 29 S) : XC (sr σ 51 q) 29 S := XC_cong (fun i h1 h2 => sr1n (by omega)) h
/-- a number's token, as the class asks it: both that it is one, and that v would stand -/
theorem XR_num {T : Nat → Int32} {τ : Nat} {tk : Tk} (h : XR σ T τ tk) : (tk.1 = 2 → σ.1 51 4 = 2 ∧ σ.1 51 5 = nI tk.2.2.2) ∧ (¬ tk.1 = 2 → σ.1 51 4 = 2 → σ.1 51 5 = nI 1024) := by
  obtain ⟨-, ⟨-, -, -, h4, h5, h6⟩, hv⟩ := h
  have ht := tkv_4 hv
  refine ⟨fun z => ⟨by rw [h4 (by omega), z]; rfl, h5 z⟩, fun z y => ?_⟩
  by_cases c : tk.1 = 4
  · rcases h6 c with w | w
    · rw [w] at y; exact absurd y (by decide)
    · exact w.2
  · rw [h4 c, show (2 : Int32) = nI 2 from rfl, nI_eq_iff (by omega) (by decide)] at y
    exact absurd y z
theorem X_readRule {T : Nat → Int32} {τ w : Nat} {tk : Tk} (hτ : τ ≤ 120) (hX : XC σ 29 S) (hI : Inv S) (hR : XR σ T τ tk) (hw : w < 3) (hk : ∀ σ' r, r = cif ((tok T τ tk.2.2.1).1 = 2 ∧ (tok T τ tk.2.2.1).2.2.2 ≤ mostR S w) ((true, upd S (4 + w) (nI (tok T τ tk.2.2.1).2.2.2), tok T τ (tok T τ tk.2.2.1).2.2.1) : RR) (false, S, tok T τ tk.2.2.1) → Df σ σ' → XC σ' 29 r.2.1 → XR σ' T τ r.2.2 → K (some (.int (if r.1 = true then 1 else 0))) σ') : Rn 0 ev mT_readRule [.ref 51, .ref 29, .int (nI w)] σ K := by
  have hc := CH29
  have hml := mostR_lt (S := S) (w := w) hI.1.2
  refine Rn_V (by decide) rc3 rfl rfl ?_
  refine PW_blk okT_readRule 0 rfl SpX_ok ?_
  simp only [wL0, wLc, true_and, w2, lg0, lgi, lgr, lgl, w54_1, q40, q41, q42, q43, q44, Option.toList_some, Option.toList_none, List.cons_append, List.nil_append, w33, kX51, w0, w79]
  refine X_next hτ hR (fun q hR2 => ?_)
  have hX2 := X_q (q := q) hX
  obtain ⟨n1, n2⟩ := XR_num hR2
  simp only [wL0, wLc, true_and, w2, lg0, lgi, lgr, lgl, w54_1, q40, q41, q42, q43, q44, Option.toList_some, Option.toList_none, List.cons_append, List.nil_append, w33, kX51, w0, w79]
  generalize hσ : sr σ 51 q = σ2 at *
  have hD2 : Df σ σ2 := by rw [← hσ]; exact Df_q Df_r
  have hnb := tkv_n hR2.2.2
  have no : ¬ ((tok T τ tk.2.2.1).1 = 2 ∧ (tok T τ tk.2.2.1).2.2.2 ≤ mostR S w) → PW 0 ev mT_readRule 24 [.ref 51, .ref 29, .int (nI w)] [] σ2 K := by
    intro z
    refine PW_blk okT_readRule 2 rfl SpX_ok ?_
    simp only [wL0, wLc, true_and, w0, w85]
    exact ⟨Or.inl trivial, hk σ2 _ (cif_n z).symm hD2 hX2 hR2⟩
  by_cases c1 : σ2.1 51 4 = 2
  rotate_left
  · exact b3N c1 (no (fun z => c1 (n1 z.1).1))
  refine b3Y c1 ?_
  refine PW_blk okT_readRule 1 rfl SpX_ok ?_
  simp only [wL0, wLc, true_and, w2, lg0, lgi, lgr, lgl, w1, w33, kX51, w54_3, q40, q41, q42, q43, q44, Option.toList_some, Option.toList_none, List.cons_append, List.nil_append, w73]
  refine X_allowsRule hc hX2 hI (fun z => ?_) (fun w' n hw' e a d => ?_)
  · simp only [wL0, wLc, true_and, w2, lg0, lgi, lgr, lgl, w1, w33, kX51, w54_3, q40, q41, q42, q43, q44, Option.toList_some, Option.toList_none, List.cons_append, List.nil_append, w73]
    refine b3Y trivial ?_
    refine no (fun y => z ⟨w, _, by omega, rfl, y.2, (n1 y.1).2⟩)
  · have e2 : w = w' := (nI_eq_iff (by omega) (by omega)).mp e
    subst e2
    have htk : (tok T τ tk.2.2.1).1 = 2 := by
      refine Classical.byContradiction (fun y => ?_)
      have := n2 y c1
      rw [this, nI_eq_iff (by decide) (by omega)] at d
      omega
    have hn2 := (n1 htk).2
    have en : n = (tok T τ tk.2.2.1).2.2.2 := by
      rw [hn2, nI_eq_iff (by omega) (by omega)] at d
      exact d.symm
    subst en
    simp only [wL0, wLc, true_and, w2, lg0, lgi, lgr, lgl, w1, w33, kX51, w54_3, q40, q41, q42, q43, q44, Option.toList_some, Option.toList_none, List.cons_append, List.nil_append, w73]
    refine b3N (by decide) ?_
    refine PW_blk okT_readRule 3 rfl SpX_ok ?_
    simp only [wL0, wLc, true_and, w2, lg0, lgi, lgr, lgl, w1, w33, kX51, w54_3, q40, q41, q42, q43, q44, Option.toList_some, Option.toList_none, List.cons_append, List.nil_append, w9i, w9r, w54_1, w0, w85, hn2]
    refine X_putRule hc (show w < 5 by omega) ?_
    have hX3 := XC_r (w := w) (v := nI (tok T τ tk.2.2.1).2.2.2) (by omega) hX2
    have hC3 : Cf 29 σ2 (sr σ2 (29 + 12) (upd (σ2.1 (29 + 12)) w (nI (tok T τ tk.2.2.1).2.2.2))) := Cf_sr (by omega) Cf_r
    simp only [wL0, wLc, true_and, w2, lg0, lgi, lgr, lgl, w1, w33, kX51, w54_3, q40, q41, q42, q43, q44, Option.toList_some, Option.toList_none, List.cons_append, List.nil_append, w9i, w9r, w54_1, w0, w85]
    refine X_next hτ (XR_C hC3 hR2) (fun q hR3 => ?_)
    simp only [wL0, wLc, true_and, w2, lg0, lgi, lgr, lgl, w1, w33, kX51, w54_3, q40, q41, q42, q43, q44, Option.toList_some, Option.toList_none, List.cons_append, List.nil_append, w9i, w9r, w54_1, w0, w85]
    refine ⟨Or.inr trivial, hk _ _ (cif_y ⟨htk, a⟩).symm (Df_q (Df_C hD2 hC3)) (X_q hX3) hR3⟩
theorem X_readLock {T : Nat → Int32} {τ kd : Nat} {tk : Tk} (hτ : τ ≤ 120) (hX : XC σ 29 S) (hI : Inv S) (hR : XR σ T τ tk) (hkd : kd ≤ 6) (hk : ∀ σ' r, r = rdL T τ S tk kd → Df σ σ' → XC σ' 29 r.2.1 → XR σ' T τ r.2.2 → K (some (.int (if r.1 = true then 1 else 0))) σ') : Rn 0 ev mT_readLock [.ref 51, .ref 29, .int (nI kd)] σ K := by
  have hc := CH29
  have hn := hI.1.2
  have hp2 := p2le _ hn
  unfold rdL at hk
  refine Rn_V (by decide) rc3 rfl rfl ?_
  refine PW_blk okT_readLock 0 rfl SpX_ok ?_
  simp only [wL0, wLc, true_and, w2, lg0, lgi, lgr, lgl, w33, CH_k hc, w0, w80, x3 hX hI]
  rw [show (10 : Int32) = nI 10 from rfl, nI_lt_iff (by omega) (by decide)]
  by_cases c0 : nv S 3 < 10
  rotate_left
  · refine b2N c0 ?_
    rw [if_pos (show nv S 3 = 10 by omega)] at hk
    refine PW_blk okT_readLock 1 rfl SpX_ok ?_
    simp only [wL0, wLc, true_and, w0, w85]
    exact ⟨Or.inl trivial, hk σ _ rfl Df_r hX hR⟩
  refine b2Y c0 ?_
  rw [if_neg (by omega)] at hk
  obtain ⟨iC, iN⟩ := Inv_cm hI c0 hkd
  have e3 := x3 hX hI
  generalize hkk : nv S 3 = k at *
  have ho1 : 2 ^ k - 1 ≤ 1023 := by omega
  refine PW_blk okT_readLock 2 rfl SpX_ok ?_
  simp only [wL0, wLc, true_and, w2, lg0, lgi, lgr, lgl, w54_1, q40, q41, q42, q43, q44, Option.toList_some, Option.toList_none, List.cons_append, List.nil_append, xp_C_allLocks, CH_e hc, w4, ls00, ls0i, ls0r, ls0l, lsi, lsr, lsl, Option.map_some, w1, w54_2, w0, w71, e3, alF_n _ (show k < 31 by omega)]
  refine X_add hc hX hI (by omega) hkd (fun σ2 hC2 hX2 => ?_)
  rw [hkk]
  simp only [wL0, wLc, true_and, w2, lg0, lgi, lgr, lgl, w54_1, q40, q41, q42, q43, q44, Option.toList_some, Option.toList_none, List.cons_append, List.nil_append, xp_C_allLocks, CH_e hc, w4, ls00, ls0i, ls0r, ls0l, lsi, lsr, lsl, Option.map_some, w1, w54_2, w0, w71]
  refine X_next hτ (XR_C hC2 hR) (fun q hR3 => ?_)
  simp only [wL0, wLc, true_and, w2, lg0, lgi, lgr, lgl, w54_1, q40, q41, q42, q43, q44, Option.toList_some, Option.toList_none, List.cons_append, List.nil_append, xp_C_allLocks, CH_e hc, w4, ls00, ls0i, ls0r, ls0l, lsi, lsr, lsl, Option.map_some, w1, w54_2, w0, w71]
  generalize hRR : rdO T τ k (2 ^ k - 1) 6 0 (cmS S (nI kd)) (tok T τ tk.2.2.1) = R at hk
  have key := lp_up (n := 6) (P := fun i => ∀ x : List Value, x.take 6 = [.ref 51, .ref 29, .int (nI kd), .int (nI (2 ^ k - 1)), .int (nI k), .int (nI i)] → ∀ S' tk' σ', Inv S' → nv S' 3 = k + 1 → Df σ σ' → XC σ' 29 S' → XR σ' T τ tk' → R = rdO T τ k (2 ^ k - 1) (6 - i) i S' tk' → PW 0 ev mT_readLock 30 x [] σ' K) ?_ ?_ 0 (by decide)
  · exact key _ rfl _ _ _ iC iN (Df_q (Df_C Df_r hC2)) (X_q hX2) hR3 hRR.symm
  · intro x hx S' tk' σ' hI' h3 hD hX' hR' he
    refine PW_loc 6 ?_
    rw [hx]
    refine PW_blk okT_readLock 3 rfl SpX_ok ?_
    simp only [wL0, wLc, true_and, w1, lg0, lgi, lgr, lgl, w0, w81]
    refine b3N (by decide) ?_
    refine PW_blk okT_readLock 15 rfl SpX_ok ?_
    simp only [wL0, wLc, true_and, w0, w85]
    rw [he] at hk
    exact ⟨Or.inr trivial, hk σ' _ rfl hD hX' hR'⟩
  · intro i hi ih x hx S' tk' σ' hI' h3 hD hX' hR' he
    refine PW_loc 6 ?_
    rw [hx]
    rw [show 6 - i = (6 - (i + 1)) + 1 by omega] at he
    unfold rdO at he
    have hf := fldO_le i hi
    have hm := mostO_le (S := S') ho1 hi
    refine PW_blk okT_readLock 3 rfl SpX_ok ?_
    simp only [wL0, wLc, true_and, w1, lg0, lgi, lgr, lgl, w0, w81]
    refine b3Y (nI_lt hi (by decide)) ?_
    refine PW_blk okT_readLock 4 rfl SpX_ok ?_
    simp only [wL0, wLc, true_and, w2, lg0, lgi, lgr, lgl, w1, w55_1, q40, q41, q42, q43, q44, Option.toList_some, Option.toList_none, List.cons_append, List.nil_append, w54_2, w72]
    refine X_optionWord hi ?_
    simp only [wL0, wLc, true_and, w2, lg0, lgi, lgr, lgl, w1, w55_1, q40, q41, q42, q43, q44, Option.toList_some, Option.toList_none, List.cons_append, List.nil_append, w54_2, w72]
    refine X_isWord (i := 10 + i) (by omega) hτ hR'.1 hR'.2.1 (tkw_v hR'.2.2) (tkv_4 hR'.2.2) (fun c1 => ?_) (fun c1 => ?_)
    rotate_left
    · rw [odx_w i hi] at c1
      rw [cif_n c1] at he
      simp only [wL0, wLc, true_and, w2, lg0, lgi, lgr, lgl, w1, w55_1, q40, q41, q42, q43, q44, Option.toList_some, Option.toList_none, List.cons_append, List.nil_append, w54_2, w72]
      refine b2Y trivial ?_
      refine PW_blk okT_readLock 14 rfl SpX_ok ?_
      simp only [wL0, wLc, true_and, w7, lg0, lgi, lgr, lgl, ls00, ls0i, ls0r, ls0l, lsi, lsr, lsl, Option.map_some, w70]
      rw [show (1 : Int32) = nI 1 from rfl, nI_add]
      exact ih _ rfl S' tk' σ' hI' h3 hD hX' hR' he
    rw [odx_w i hi] at c1
    rw [cif_y c1] at he
    simp only [wL0, wLc, true_and, w2, lg0, lgi, lgr, lgl, w1, w55_1, q40, q41, q42, q43, q44, Option.toList_some, Option.toList_none, List.cons_append, List.nil_append, w54_2, w72]
    refine b2N (by decide) ?_
    refine PW_blk okT_readLock 5 rfl SpX_ok ?_
    simp only [wL0, wLc, true_and, w1, lg0, lgi, lgr, lgl, w55_1, q40, q41, q42, q43, q44, Option.toList_some, Option.toList_none, List.cons_append, List.nil_append, w4, ls00, ls0i, ls0r, ls0l, lsi, lsr, lsl, Option.map_some, w2, w54_1, w0, w79]
    refine X_optionTrait hi ?_
    simp only [wL0, wLc, true_and, w1, lg0, lgi, lgr, lgl, w55_1, q40, q41, q42, q43, q44, Option.toList_some, Option.toList_none, List.cons_append, List.nil_append, w4, ls00, ls0i, ls0r, ls0l, lsi, lsr, lsl, Option.map_some, w2, w54_1, w0, w79]
    refine X_next hτ hR' (fun q hR4 => ?_)
    simp only [wL0, wLc, true_and, w1, lg0, lgi, lgr, lgl, w55_1, q40, q41, q42, q43, q44, Option.toList_some, Option.toList_none, List.cons_append, List.nil_append, w4, ls00, ls0i, ls0r, ls0l, lsi, lsr, lsl, Option.map_some, w2, w54_1, w0, w79]
    have hX4 := X_q (q := q) hX'
    have hD4 : Df σ (sr σ' 51 q) := Df_q hD
    generalize hσ4 : sr σ' 51 q = σ4 at *
    obtain ⟨n1, n2⟩ := XR_num hR4
    have hnb := tkv_n hR4.2.2
    generalize htk : tok T τ tk'.2.2.1 = tkn at *
    generalize hff : fldO i = f at *
    have fin : ∀ s : Int32, (s = 0 ∧ ¬ (tkn.1 = 2 ∧ leastN f ≤ tkn.2.2.2 ∧ tkn.2.2.2 ≤ mostO S' (2 ^ k - 1) f)) ∨ (s = 1 ∧ (tkn.1 = 2 → leastN f ≤ tkn.2.2.2 ∧ tkn.2.2.2 ≤ mostO S' (2 ^ k - 1) f) ∧ (¬ tkn.1 = 2 → ¬ σ4.1 51 4 = 2)) → PW 0 ev mT_readLock 93 [.ref 51, .ref 29, .int (nI kd), .int (nI (2 ^ k - 1)), .int (nI k), .int (nI i), .int (nI f)] [.int s] σ4 K := by
      intro s hs
      have no : ¬ (tkn.1 = 2 ∧ leastN f ≤ tkn.2.2.2 ∧ tkn.2.2.2 ≤ mostO S' (2 ^ k - 1) f) → PW 0 ev mT_readLock 108 [.ref 51, .ref 29, .int (nI kd), .int (nI (2 ^ k - 1)), .int (nI k), .int (nI i), .int (nI f), .int s] [] σ4 K := by
        intro z
        rw [cif_n z] at he
        refine PW_blk okT_readLock 12 rfl SpX_ok ?_
        simp only [wL0, wLc, true_and, w0, w85]
        rw [he] at hk
        exact ⟨Or.inl trivial, hk σ4 _ rfl hD4 hX4 hR4⟩
      refine PW_blk okT_readLock 10 rfl SpX_ok ?_
      simp only [wL0, wLc, true_and, w4, ls00, ls0i, ls0r, ls0l, lsi, lsr, lsl, Option.map_some, w2, lg0, lgi, lgr, lgl, w33, kX51, w0, w79]
      by_cases c2 : σ4.1 51 4 = 2
      rotate_left
      · exact b3N c2 (no (fun z => c2 (n1 z.1).1))
      refine b3Y c2 ?_
      refine PW_blk okT_readLock 11 rfl SpX_ok ?_
      simp only [wL0, wLc, true_and, w1, lg0, lgi, lgr, lgl, w73]
      rcases hs with ⟨rfl, z⟩ | ⟨rfl, z1, z2⟩
      · exact b3Y rfl (no z)
      · refine b3N (by decide) ?_
        have ht2 : tkn.1 = 2 := Classical.byContradiction (fun y => z2 y c2)
        obtain ⟨z3, z4⟩ := z1 ht2
        rw [cif_y ⟨ht2, z3, z4⟩] at he
        have e5 := (n1 ht2).2
        refine PW_blk okT_readLock 13 rfl SpX_ok ?_
        simp only [wL0, wLc, true_and, w2, lg0, lgi, lgr, lgl, w1, w33, kX51, w54_4, q40, q41, q42, q43, q44, Option.toList_some, Option.toList_none, List.cons_append, List.nil_append, w9i, w9r, w54_1, w71, e5]
        refine X_putTrait hc hX4 hI' (by omega) hf.2 ?_
        have hX5 := XC_t (k := k) (w := f) (v := nI tkn.2.2.2) hf.2 (by omega) hX4
        have hC5 : Cf 29 σ4 (sr σ4 (29 + 2 + f) (upd (σ4.1 (29 + 2 + f)) k (nI tkn.2.2.2))) := Cf_sr (by omega) Cf_r
        simp only [wL0, wLc, true_and, w2, lg0, lgi, lgr, lgl, w1, w33, kX51, w54_4, q40, q41, q42, q43, q44, Option.toList_some, Option.toList_none, List.cons_append, List.nil_append, w9i, w9r, w54_1, w71]
        refine X_next hτ (XR_C hC5 hR4) (fun q hR6 => ?_)
        simp only [wL0, wLc, true_and, w2, lg0, lgi, lgr, lgl, w1, w33, kX51, w54_4, q40, q41, q42, q43, q44, Option.toList_some, Option.toList_none, List.cons_append, List.nil_append, w9i, w9r, w54_1, w71]
        refine PW_blk okT_readLock 14 rfl SpX_ok ?_
        simp only [wL0, wLc, true_and, w7, lg0, lgi, lgr, lgl, ls00, ls0i, ls0r, ls0l, lsi, lsr, lsl, Option.map_some, w70]
        rw [show (1 : Int32) = nI 1 from rfl, nI_add]
        refine ih _ rfl _ _ _ (Inv_changeB hI' (by omega) (by omega) z3 (Nat.le_trans z4 hm.1)) ?_ (Df_q (Df_C hD4 hC5)) (X_q hX5) hR6 he
        rw [nv_ne (by unfold tr; omega)]
        exact h3
    rw [show (8 : Int32) = nI 8 from rfl, nI_eq_iff (by omega) (by decide)]
    by_cases c8 : f = 8
    · refine b3Y c8 ?_
      have em : mostO S' (2 ^ k - 1) f = 2 ^ k - 1 := by unfold mostO; rw [if_pos c8]
      have el : leastN f = 0 := by rw [c8]; rfl
      rw [em, el] at fin
      refine PW_blk okT_readLock 6 rfl SpX_ok ?_
      simp only [wL0, wLc, true_and, w2, lg0, lgi, lgr, lgl, w33, kX51, w1, w82]
      by_cases c9 : nI (2 ^ k - 1) < σ4.1 51 5
      · refine b2Y c9 ?_
        refine PW_blk okT_readLock 8 rfl SpX_ok ?_
        simp only [wL0, wLc, true_and, w0, w70]
        refine fin 0 (Or.inl ⟨rfl, fun z => ?_⟩)
        rw [(n1 z.1).2, nI_lt_iff (by omega) (by omega)] at c9
        have := z.2.2
        omega
      · refine b2N c9 ?_
        refine PW_blk okT_readLock 7 rfl SpX_ok ?_
        simp only [wL0, wLc, true_and, w0, w70]
        refine fin 1 (Or.inr ⟨rfl, fun z => ⟨Nat.zero_le _, ?_⟩, fun z y => ?_⟩)
        · rw [(n1 z).2, nI_lt_iff (by omega) (by omega)] at c9
          omega
        · rw [n2 z y, nI_lt_iff (by omega) (by decide)] at c9
          omega
    · refine b3N c8 ?_
      have em : mostO S' (2 ^ k - 1) f = mostN S' f := by unfold mostO; rw [if_neg c8]
      rw [em] at fin hm
      refine PW_blk okT_readLock 9 rfl SpX_ok ?_
      simp only [wL0, wLc, true_and, w2, lg0, lgi, lgr, lgl, w1, w33, kX51, w54_3, q40, q41, q42, q43, q44, Option.toList_some, Option.toList_none, List.cons_append, List.nil_append, w71]
      refine X_allows hc hX4 hI' (fun z => ?_) (fun w n hw e a b d => ?_)
      · simp only [wL0, wLc, true_and, w2, lg0, lgi, lgr, lgl, w1, w33, kX51, w54_3, q40, q41, q42, q43, q44, Option.toList_some, Option.toList_none, List.cons_append, List.nil_append, w71]
        refine fin 0 (Or.inl ⟨rfl, fun y => z ⟨f, _, by omega, rfl, y.2.1, y.2.2, (n1 y.1).2⟩⟩)
      · have e2 : f = w := (nI_eq_iff (by omega) (by omega)).mp e
        subst e2
        simp only [wL0, wLc, true_and, w2, lg0, lgi, lgr, lgl, w1, w33, kX51, w54_3, q40, q41, q42, q43, q44, Option.toList_some, Option.toList_none, List.cons_append, List.nil_append, w71]
        refine fin 1 (Or.inr ⟨rfl, fun z => ?_, fun z y => ?_⟩)
        · rw [(n1 z).2, nI_eq_iff (by omega) (by omega)] at d
          rw [d]
          exact ⟨a, b⟩
        · rw [n2 z y, nI_eq_iff (by decide) (by omega)] at d
          omega
end UX
