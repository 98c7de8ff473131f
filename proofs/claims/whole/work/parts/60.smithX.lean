/-! the smith's searches -/
def fO (r : Option (Nat × Nat)) : Option Nat := match r with
  | none => none
  | some q => some q.1
def sO (r : Option (Nat × Nat)) : Option Nat := match r with
  | none => none
  | some q => some q.2
theorem amU_bd {f : Nat → Option Nat} {n : Nat} (hf : ∀ k, k < n → ∀ v, f k = some v → v ≤ 133120) : ∀ m, m ≤ n → ∀ b l, amU f m = some (b, l) → b < m ∧ l ≤ 133120
  | 0, _, b, l, h => by cases h
  | m + 1, hm, b, l, h => by
    have ih := amU_bd hf m (by omega)
    unfold amU at h
    cases e : f m with
    | none => rw [e] at h; have := ih b l h; omega
    | some v =>
      have hv := hf m (by omega) v e
      rw [e] at h
      cases e2 : amU f m with
      | none => rw [e2] at h; cases h; omega
      | some q =>
        obtain ⟨b', l'⟩ := q
        have hq := ih b' l' e2
        rw [e2] at h
        have h2 : (if v < l' then some (m, v) else some (b', l')) = some (b, l) := h
        split at h2 <;> cases h2 <;> omega
theorem axU_bd {f : Nat → Option Nat} {n : Nat} (hf : ∀ k, k < n → ∀ v, f k = some v → v ≤ 133120) : ∀ m, m ≤ n → ∀ b l, axU f m = some (b, l) → b < m ∧ l ≤ 133120
  | 0, _, b, l, h => by cases h
  | m + 1, hm, b, l, h => by
    have ih := axU_bd hf m (by omega)
    unfold axU at h
    cases e : f m with
    | none => rw [e] at h; have := ih b l h; omega
    | some v =>
      have hv := hf m (by omega) v e
      rw [e] at h
      cases e2 : axU f m with
      | none => rw [e2] at h; cases h; omega
      | some q =>
        obtain ⟨b', l'⟩ := q
        have hq := ih b' l' e2
        rw [e2] at h
        have h2 : (if l' < v then some (m, v) else some (b', l')) = some (b, l) := h
        split at h2 <;> cases h2 <;> omega
theorem amU_no {f : Nat → Option Nat} {k : Nat} (h : f k = none) : amU f (k + 1) = amU f k := by
  conv => lhs; unfold amU
  rw [h]
theorem axU_no {f : Nat → Option Nat} {k : Nat} (h : f k = none) : axU f (k + 1) = axU f k := by
  conv => lhs; unfold axU
  rw [h]
theorem amU_lt {f : Nat → Option Nat} {n k : Nat} (hf : ∀ k, k < n → ∀ v, f k = some v → v ≤ 133120) (hk : k < n) (h : encM (f k) < encM (sO (amU f k))) : ∃ v, f k = some v ∧ amU f (k + 1) = some (k, v) := by
  cases e : f k with
  | none =>
    rw [e] at h
    cases e2 : amU f k with
    | none => rw [e2] at h; exact absurd h (by decide)
    | some q =>
      obtain ⟨b, l⟩ := q
      have hb := amU_bd hf k (by omega) b l e2
      rw [e2] at h
      have h2 : (2147483647 : Int32) < nI l := h
      rw [show (2147483647 : Int32) = nI 2147483647 from rfl, nI_lt_iff (by decide) (by omega)] at h2
      omega
  | some v =>
    have hv := hf k hk v e
    refine ⟨v, rfl, ?_⟩
    conv => lhs; unfold amU
    rw [e]
    cases e2 : amU f k with
    | none => rfl
    | some q =>
      obtain ⟨b, l⟩ := q
      have hb := amU_bd hf k (by omega) b l e2
      rw [e, e2] at h
      have h2 : v < l := (nI_lt_iff (by omega) (by omega)).mp h
      show (if v < l then some (k, v) else some (b, l)) = _
      rw [if_pos h2]
theorem amU_nlt {f : Nat → Option Nat} {n k : Nat} (hf : ∀ k, k < n → ∀ v, f k = some v → v ≤ 133120) (hk : k < n) (h : ¬ encM (f k) < encM (sO (amU f k))) : amU f (k + 1) = amU f k := by
  cases e : f k with
  | none => exact amU_no e
  | some v =>
    have hv := hf k hk v e
    conv => lhs; unfold amU
    rw [e]
    cases e2 : amU f k with
    | none => rw [e, e2] at h; exact absurd (encM_lt (by omega)) h
    | some q =>
      obtain ⟨b, l⟩ := q
      have hb := amU_bd hf k (by omega) b l e2
      rw [e, e2] at h
      have h2 : ¬ v < l := fun z => h ((nI_lt_iff (by omega) (by omega)).mpr z)
      show (if v < l then some (k, v) else some (b, l)) = _
      rw [if_neg h2]
/-- S and S' have the same locks, slack, hands and needs -/
def agM (S S' : Nat → Int32) : Prop := S' 3 = S 3 ∧ S' 4 = S 4 ∧ S' 5 = S 5 ∧ ∀ k f, 2 ≤ f → f < 10 → f ≠ 7 → S' (tr k f) = S (tr k f)
theorem agM_nv {S S' : Nat → Int32} {i : Nat} (h : S' i = S i) : nv S' i = nv S i := by unfold nv; rw [h]
theorem agM_slU {S S' : Nat → Int32} (h : agM S S') (o : Nat) : ∀ n, slU S' o n = slU S o n
  | 0 => agM_nv h.2.2.1
  | n + 1 => by unfold slU; rw [agM_slU h o n, agM_nv (h.2.2.2 n 2 (by decide) (by decide) (by decide))]
theorem agM_sl {S S' : Nat → Int32} (h : agM S S') (o : Nat) : slackN S' o = slackN S o := by unfold slackN; rw [agM_nv h.1, agM_slU h]
theorem agM_bdU {S S' : Nat → Int32} (h : agM S S') (o : Nat) : ∀ n, bdU S' o n = bdU S o n
  | 0 => rfl
  | n + 1 => by unfold bdU; rw [agM_bdU h o n, agM_nv (h.2.2.2 n 4 (by decide) (by decide) (by decide))]
theorem agM_fr {S S' : Nat → Int32} (h : agM S S') (o : Nat) : frN S' o = frN S o := by unfold frN; rw [agM_nv h.1, agM_bdU h]
theorem agM_hd {S S' : Nat → Int32} (h : agM S S') (o : Nat) : hdN S' o = hdN S o := by unfold hdN; rw [agM_fr h]
theorem agM_why {S S' : Nat → Int32} (h : agM S S') (k o : Nat) (sl hd : Int32) : whyF S' k o sl hd = whyF S k o sl hd := by
  unfold whyF
  rw [h.2.1, h.2.2.2 k 3 (by decide) (by decide) (by decide), h.2.2.2 k 5 (by decide) (by decide) (by decide), h.2.2.2 k 6 (by decide) (by decide) (by decide), h.2.2.2 k 8 (by decide) (by decide) (by decide), h.2.2.2 k 9 (by decide) (by decide) (by decide)]
theorem agM_mayok {S S' : Nat → Int32} (h : agM S S') (k o : Nat) : mayok S' k o ↔ mayok S k o := by
  unfold mayok
  rw [agM_why h, agM_sl h, agM_hd h]
theorem agM_may {S S' : Nat → Int32} (h : agM S S') (o : Nat) : mayN S' o = mayN S o := by
  apply Nat.eq_of_testBit_eq
  intro i
  rw [Bool.eq_iff_iff, mayN_bit, mayN_bit, agM_mayok h, agM_nv h.1]
theorem agM_rch {S S' : Nat → Int32} (h : agM S S') (fr t : Nat) : rch S' fr t ↔ rch S fr t := by
  have e : okW S' 0 = okW S 0 := by
    funext s k
    apply propext
    unfold okW
    rw [agM_mayok h, agM_nv h.1]
    exact ⟨fun z => ⟨z.1, z.2.1, fun y => absurd rfl y⟩, fun z => ⟨z.1, z.2.1, fun y => absurd rfl y⟩⟩
  unfold rch cw
  rw [e]
theorem agM_Tab {S S' : Nat → Int32} {σ : St2} {fr : Nat} (h : agM S S') (hT : Tab σ S fr) : Tab σ S' fr := by
  intro t ht
  rw [agM_rch h, agM_may h, agM_sl h, agM_hd h]
  exact hT t ht
theorem agM_6 {S : Nat → Int32} {v : Int32} : agM S (upd S 6 v) := ⟨updN (by decide), updN (by decide), updN (by decide), fun k f _ _ _ => updN (by unfold tr; omega)⟩
theorem agM_0 {S : Nat → Int32} {l : Nat} {v : Int32} : agM S (upd S (tr l 0) v) := ⟨updN (by unfold tr; omega), updN (by unfold tr; omega), updN (by unfold tr; omega), fun k f h1 h2 _ => updN (fun e => by have := (tr_inj (by omega) (by decide) e).2; omega)⟩
/-- but for one row of the chest -/
def W2 (q : Nat) (σ σ' : St2) : Prop := ∀ i, ¬ (43 ≤ i ∧ i ≤ 50) → i ≠ q → σ'.1 i = σ.1 i
theorem W2_w {q : Nat} {a b d : St2} (h : W2 q a b) (h2 : Wf b d) : W2 q a d := fun i hi hq => (h2 i hi).trans (h i hi hq)
theorem W2_q {q : Nat} {a b : St2} {r : Nat → Int32} (h : W2 q a b) : W2 q a (sr b q r) := fun i hi hq => by
  rw [sr1n hq]
  exact h i hi hq
theorem W2_e {q : Nat} {a b : St2} {r : Nat → Int32} (h : W2 q a b) (e : r = a.1 q) : Wf a (sr b q r) := fun i hi => by
  by_cases z : i = q
  · subst z; rw [sr1]; exact e
  · rw [sr1n z]; exact h i hi z
theorem W2_r {q : Nat} {σ : St2} : W2 q σ σ := fun _ _ _ => rfl
section SY
variable {ev : EV} {σ : St2} {K : PO} {S : Nat → Int32}
theorem way_can {S : Nat → Int32} (hI : Inv S) : wayP S (nv S 2) ↔ can S := way_lst hI hI.2.1.2
theorem X_fewestTools (hX : XC σ 1 S) (hI : Inv S) (hk : ∀ σ', Wf σ σ' → K (some (.int (encM (toolsU S 16)))) σ') : Rn 0 ev mK_fewestTools [.ref 50] σ K := by
  have hc := CH1
  refine Rn_V (by decide) rc2 rfl rfl ?_
  refine PW_blk okK_fewestTools 0 rfl SpX_ok ?_
  simp only [wL0, wLc, true_and, w2, lg0, lgi, lgr, lgl, w35, kX50, rX50_0, w0, w54_3, q40, q41, q42, q43, q44, Option.toList_some, Option.toList_none, List.cons_append, List.nil_append, w4, ls00, ls0i, ls0r, ls0l, lsi, lsr, lsl, Option.map_some, w71]
  refine X_putRule (w := 0) hc (by decide) ?_
  simp only [wL0, wLc, true_and, w2, lg0, lgi, lgr, lgl, w35, kX50, rX50_0, w0, w54_3, q40, q41, q42, q43, q44, Option.toList_some, Option.toList_none, List.cons_append, List.nil_append, w4, ls00, ls0i, ls0r, ls0l, lsi, lsr, lsl, Option.map_some, w71, xr0 hX]
  have key := lp_up (n := 16) (P := fun s => ∀ σ' x, W2 (1 + 12) σ σ' → σ'.1 (1 + 12) = upd (σ.1 (1 + 12)) 0 x → XC σ' 1 (upd S 4 x) → PW 0 ev mK_fewestTools 15 [.ref 50, .int (S 4), .int (encM (toolsU S s)), .int (nI s)] [] σ' K) ?_ ?_ 0 (by decide) (sr σ (1 + 12) (upd (σ.1 (1 + 12)) 0 0)) 0 (W2_q W2_r) sr1 (XC_r (w := 0) (by decide) hX)
  · exact key
  · intro σ' x hW h13 hX'
    refine PW_blk okK_fewestTools 1 rfl SpX_ok ?_
    simp only [wL0, wLc, true_and, w1, lg0, lgi, lgr, lgl, w0, w81]
    refine b3N (by decide) ?_
    refine PW_blk okK_fewestTools 7 rfl SpX_ok ?_
    simp only [wL0, wLc, true_and, w2, lg0, lgi, lgr, lgl, w35, kX50, rX50_0, w0, w1, w54_3, q40, q41, q42, q43, q44, Option.toList_some, Option.toList_none, List.cons_append, List.nil_append, w9i, w9r, w84]
    refine X_putRule (w := 0) hc (by decide) ?_
    simp only [wL0, wLc, true_and, w2, lg0, lgi, lgr, lgl, w35, kX50, rX50_0, w0, w1, w54_3, q40, q41, q42, q43, q44, Option.toList_some, Option.toList_none, List.cons_append, List.nil_append, w9i, w9r, w84]
    refine hk _ (W2_e hW ?_)
    rw [h13, fa_upd_twice]
    exact fa_upd_same (xr0 hX)
  · intro s hs ih σ' x hW h13 hX'
    have hIs : Inv (upd S 4 (nI s)) := Inv_rule hI (w := 0) (by decide) (show s ≤ 15 by omega)
    have n2 : nv (upd S 4 (nI s)) 2 = nv S 2 := nv_ne (by decide)
    have n3 : nv (upd S 4 (nI s)) 3 = nv S 3 := nv_ne (by decide)
    have next : ∀ σ' x, W2 (1 + 12) σ σ' → σ'.1 (1 + 12) = upd (σ.1 (1 + 12)) 0 x → XC σ' 1 (upd S 4 x) → PW 0 ev mK_fewestTools 67 [.ref 50, .int (S 4), .int (encM (toolsU S (s + 1))), .int (nI s)] [] σ' K := by
      intro σ' x hW h13 hX'
      refine PW_blk okK_fewestTools 6 rfl SpX_ok ?_
      simp only [wL0, wLc, true_and, w7, lg0, lgi, lgr, lgl, ls00, ls0i, ls0r, ls0l, lsi, lsr, lsl, Option.map_some, w70]
      rw [show (1 : Int32) = nI 1 from rfl, nI_add]
      exact ih σ' x hW h13 hX'
    have try1 : (toolsU S (s + 1) = cif (can (upd S 4 (nI s))) (some s) (toolsU S s)) → PW 0 ev mK_fewestTools 38 [.ref 50, .int (S 4), .int (encM (toolsU S s)), .int (nI s)] [] σ' K := by
      intro he
      have hX2 := XC_r (w := 0) (v := nI s) (by decide) hX'
      rw [show 4 + 0 = 4 from rfl, fa_upd_twice] at hX2
      have h132 : (sr σ' (1 + 12) (upd (σ'.1 (1 + 12)) 0 (nI s))).1 (1 + 12) = upd (σ.1 (1 + 12)) 0 (nI s) := by rw [sr1, h13, fa_upd_twice]
      have ex4 := x4 hX2 hIs
      rw [n2] at ex4
      refine PW_blk okK_fewestTools 4 rfl SpX_ok ?_
      simp only [wL0, wLc, true_and, w2, lg0, lgi, lgr, lgl, w35, kX50, rX50_0, w0, w1, w54_3, q40, q41, q42, q43, q44, Option.toList_some, Option.toList_none, List.cons_append, List.nil_append, w9i, w9r, rX50_1, w33, CH_k hc, w54_2, w72]
      refine X_putRule (w := 0) hc (by decide) ?_
      simp only [wL0, wLc, true_and, w2, lg0, lgi, lgr, lgl, w35, kX50, rX50_0, w0, w1, w54_3, q40, q41, q42, q43, q44, Option.toList_some, Option.toList_none, List.cons_append, List.nil_append, w9i, w9r, rX50_1, w33, CH_k hc, w54_2, w72, ex4]
      refine X_hasWayOut hX2 hIs (by rw [n3]; exact hI.2.1.2) (fun hw σ2 hW2 _ => ?_) (fun hw σ2 hW2 _ => ?_)
      · rw [← n2, way_can hIs] at hw
        rw [cif_n hw] at he
        simp only [wL0, wLc, true_and, w2, lg0, lgi, lgr, lgl, w35, kX50, rX50_0, w0, w1, w54_3, q40, q41, q42, q43, q44, Option.toList_some, Option.toList_none, List.cons_append, List.nil_append, w9i, w9r, rX50_1, w33, CH_k hc, w54_2, w72]
        refine b2Y trivial ?_
        rw [← he]
        exact next _ (nI s) (W2_w (W2_q hW) hW2) (by rw [hW2 _ (by decide)]; exact h132) (Wf_X hW2 hX2)
      · rw [← n2, way_can hIs] at hw
        rw [cif_y hw] at he
        simp only [wL0, wLc, true_and, w2, lg0, lgi, lgr, lgl, w35, kX50, rX50_0, w0, w1, w54_3, q40, q41, q42, q43, q44, Option.toList_some, Option.toList_none, List.cons_append, List.nil_append, w9i, w9r, rX50_1, w33, CH_k hc, w54_2, w72]
        refine b2N (by decide) ?_
        refine PW_blk okK_fewestTools 5 rfl SpX_ok ?_
        simp only [wL0, wLc, true_and, w1, lg0, lgi, lgr, lgl, w4, ls00, ls0i, ls0r, ls0l, lsi, lsr, lsl, Option.map_some, w71]
        have nx := next _ (nI s) (W2_w (W2_q hW) hW2) (by rw [hW2 _ (by decide)]; exact h132) (Wf_X hW2 hX2)
        rw [he] at nx
        exact nx
    refine PW_blk okK_fewestTools 1 rfl SpX_ok ?_
    simp only [wL0, wLc, true_and, w1, lg0, lgi, lgr, lgl, w0, w81]
    refine b3Y (nI_lt hs (by decide)) ?_
    refine PW_blk okK_fewestTools 2 rfl SpX_ok ?_
    simp only [wL0, wLc, true_and, w1, lg0, lgi, lgr, lgl, w0, w78]
    cases e : toolsU S s with
    | none =>
      refine b2Y rfl ?_
      rw [e] at try1
      refine try1 ?_
      show (match toolsU S s with | none => _ | some b => _) = _
      rw [e]
    | some b =>
      have hb := toolsU_b _ b e
      have e2 : toolsU S (s + 1) = cif (pcn s < pcn b ∧ can (upd S 4 (nI s))) (some s) (some b) := by
        show (match toolsU S s with | none => _ | some b => _) = _
        rw [e]
      refine b2N (encM_ne (by omega)) ?_
      rw [show encM (some b) = nI b from rfl]
      refine PW_blk okK_fewestTools 3 rfl SpX_ok ?_
      simp only [wL0, wLc, true_and, w1, lg0, lgi, lgr, lgl, w55_1, q40, q41, q42, q43, q44, Option.toList_some, Option.toList_none, List.cons_append, List.nil_append, xp_JI_bitCount, w81, bcF_n s (by omega), bcF_n b (by omega)]
      have p1 := pcn_le s
      have p2 := pcn_le b
      rw [nI_lt_iff (by omega) (by omega)]
      by_cases hc2 : pcn s < pcn b
      · refine b3Y hc2 ?_
        rw [e] at try1
        refine try1 ?_
        rw [e2]
        by_cases h3 : can (upd S 4 (nI s))
        · rw [cif_y ⟨hc2, h3⟩, cif_y h3]
        · rw [cif_n (fun z => h3 z.2), cif_n h3]
      · refine b3N hc2 ?_
        rw [cif_n (fun z => hc2 z.1)] at e2
        rw [e2] at next
        exact next σ' x hW h13 hX'
theorem X_leastSpare (hX : XC σ 1 S) (hI : Inv S) (h1 : (∀ v, v ≤ 40 → ¬ can (upd S 5 (nI v))) → ∀ σ', Wf σ σ' → K (some (.int (encM none))) σ') (h2 : ∀ v, v ≤ 40 → can (upd S 5 (nI v)) → (∀ u, u < v → ¬ can (upd S 5 (nI u))) → ∀ σ', Wf σ σ' → K (some (.int (encM (some v)))) σ') : Rn 0 ev mK_leastSpare [.ref 50] σ K := by
  have hc := CH1
  refine Rn_V (by decide) rc2 rfl rfl ?_
  refine PW_blk okK_leastSpare 0 rfl SpX_ok ?_
  simp only [wL0, wLc, true_and, w2, lg0, lgi, lgr, lgl, w35, kX50, rX50_0, w0, w54_3, q40, q41, q42, q43, q44, Option.toList_some, Option.toList_none, List.cons_append, List.nil_append, w4, ls00, ls0i, ls0r, ls0l, lsi, lsr, lsl, Option.map_some, w71]
  refine X_putRule (w := 1) hc (by decide) ?_
  simp only [wL0, wLc, true_and, w2, lg0, lgi, lgr, lgl, w35, kX50, rX50_0, w0, w54_3, q40, q41, q42, q43, q44, Option.toList_some, Option.toList_none, List.cons_append, List.nil_append, w4, ls00, ls0i, ls0r, ls0l, lsi, lsr, lsl, Option.map_some, w71, show σ.1 (1 + 12) 1 = S 5 from hX.2.1 1 (by decide)]
  have endd : ∀ (r : Option Nat) (v x : Int32) σ', W2 (1 + 12) σ σ' → σ'.1 (1 + 12) = upd (σ.1 (1 + 12)) 1 x → (∀ σ', Wf σ σ' → K (some (.int (encM r))) σ') → PW 0 ev mK_leastSpare 62 [.ref 50, .int (S 5), .int (encM r), .int v] [] σ' K := by
    intro r v x σ' hW h13 hK
    refine PW_blk okK_leastSpare 6 rfl SpX_ok ?_
    simp only [wL0, wLc, true_and, w2, lg0, lgi, lgr, lgl, w35, kX50, rX50_0, w0, w1, w54_3, q40, q41, q42, q43, q44, Option.toList_some, Option.toList_none, List.cons_append, List.nil_append, w9i, w9r, w84]
    refine X_putRule (w := 1) hc (by decide) ?_
    simp only [wL0, wLc, true_and, w2, lg0, lgi, lgr, lgl, w35, kX50, rX50_0, w0, w1, w54_3, q40, q41, q42, q43, q44, Option.toList_some, Option.toList_none, List.cons_append, List.nil_append, w9i, w9r, w84]
    refine hK _ (W2_e hW ?_)
    rw [h13, fa_upd_twice]
    exact fa_upd_same (hX.2.1 1 (by decide))
  have key := lp_up (n := 41) (P := fun v => ∀ σ' x, W2 (1 + 12) σ σ' → σ'.1 (1 + 12) = upd (σ.1 (1 + 12)) 1 x → XC σ' 1 (upd S 5 x) → (∀ u, u < v → ¬ can (upd S 5 (nI u))) → PW 0 ev mK_leastSpare 15 [.ref 50, .int (S 5), .int 2147483647, .int (nI v)] [] σ' K) ?_ ?_ 0 (by decide) (sr σ (1 + 12) (upd (σ.1 (1 + 12)) 1 0)) 0 (W2_q W2_r) sr1 (XC_r (w := 1) (by decide) hX) (fun u hu => absurd hu (Nat.not_lt_zero _))
  · exact key
  · intro σ' x hW h13 hX' hno
    refine PW_blk okK_leastSpare 1 rfl SpX_ok ?_
    simp only [wL0, wLc, true_and, w1, lg0, lgi, lgr, lgl, w0, w82]
    refine b2Y (by decide) ?_
    exact endd none _ x σ' hW h13 (h1 (fun v hv => hno v (by omega)))
  · intro v hv ih σ' x hW h13 hX' hno
    have hIs : Inv (upd S 5 (nI v)) := Inv_rule hI (w := 1) (by decide) (show v ≤ 40 by omega)
    have n2 : nv (upd S 5 (nI v)) 2 = nv S 2 := nv_ne (by decide)
    have n3 : nv (upd S 5 (nI v)) 3 = nv S 3 := nv_ne (by decide)
    have hX2 := XC_r (w := 1) (v := nI v) (by decide) hX'
    rw [show 4 + 1 = 5 from rfl, fa_upd_twice] at hX2
    have h132 : (sr σ' (1 + 12) (upd (σ'.1 (1 + 12)) 1 (nI v))).1 (1 + 12) = upd (σ.1 (1 + 12)) 1 (nI v) := by rw [sr1, h13, fa_upd_twice]
    have ex4 := x4 hX2 hIs
    rw [n2] at ex4
    refine PW_blk okK_leastSpare 1 rfl SpX_ok ?_
    simp only [wL0, wLc, true_and, w1, lg0, lgi, lgr, lgl, w0, w82]
    refine b2N (nI_nlt (a := 40) (b := v) (by omega) (by decide)) ?_
    refine PW_blk okK_leastSpare 2 rfl SpX_ok ?_
    simp only [wL0, wLc, true_and, w1, lg0, lgi, lgr, lgl, w0, w79]
    refine b3Y trivial ?_
    refine PW_blk okK_leastSpare 3 rfl SpX_ok ?_
    simp only [wL0, wLc, true_and, w2, lg0, lgi, lgr, lgl, w35, kX50, rX50_0, w0, w1, w54_3, q40, q41, q42, q43, q44, Option.toList_some, Option.toList_none, List.cons_append, List.nil_append, w9i, w9r, rX50_1, w33, CH_k hc, w54_2, w72]
    refine X_putRule (w := 1) hc (by decide) ?_
    simp only [wL0, wLc, true_and, w2, lg0, lgi, lgr, lgl, w35, kX50, rX50_0, w0, w1, w54_3, q40, q41, q42, q43, q44, Option.toList_some, Option.toList_none, List.cons_append, List.nil_append, w9i, w9r, rX50_1, w33, CH_k hc, w54_2, w72, ex4]
    refine X_hasWayOut hX2 hIs (by rw [n3]; exact hI.2.1.2) (fun hw σ2 hW2 _ => ?_) (fun hw σ2 hW2 _ => ?_)
    · rw [← n2, way_can hIs] at hw
      simp only [wL0, wLc, true_and, w2, lg0, lgi, lgr, lgl, w35, kX50, rX50_0, w0, w1, w54_3, q40, q41, q42, q43, q44, Option.toList_some, Option.toList_none, List.cons_append, List.nil_append, w9i, w9r, rX50_1, w33, CH_k hc, w54_2, w72]
      refine b2Y trivial ?_
      refine PW_blk okK_leastSpare 5 rfl SpX_ok ?_
      simp only [wL0, wLc, true_and, w7, lg0, lgi, lgr, lgl, ls00, ls0i, ls0r, ls0l, lsi, lsr, lsl, Option.map_some, w70]
      rw [show (1 : Int32) = nI 1 from rfl, nI_add]
      refine ih _ (nI v) (W2_w (W2_q hW) hW2) (by rw [hW2 _ (by decide)]; exact h132) (Wf_X hW2 hX2) (fun u hu => ?_)
      by_cases e : u = v
      · subst e; exact hw
      · exact hno u (by omega)
    · rw [← n2, way_can hIs] at hw
      simp only [wL0, wLc, true_and, w2, lg0, lgi, lgr, lgl, w35, kX50, rX50_0, w0, w1, w54_3, q40, q41, q42, q43, q44, Option.toList_some, Option.toList_none, List.cons_append, List.nil_append, w9i, w9r, rX50_1, w33, CH_k hc, w54_2, w72]
      refine b2N (by decide) ?_
      refine PW_blk okK_leastSpare 4 rfl SpX_ok ?_
      simp only [wL0, wLc, true_and, w1, lg0, lgi, lgr, lgl, w4, ls00, ls0i, ls0r, ls0l, lsi, lsr, lsl, Option.map_some, w71]
      refine PW_blk okK_leastSpare 5 rfl SpX_ok ?_
      simp only [wL0, wLc, true_and, w7, lg0, lgi, lgr, lgl, ls00, ls0i, ls0r, ls0l, lsi, lsr, lsl, Option.map_some, w70]
      have hend := fun x => endd (some v) x (nI v) σ2 (W2_w (W2_q hW) hW2) (by rw [hW2 _ (by decide)]; exact h132) (h2 v (by omega) hw hno)
      refine PW_blk okK_leastSpare 1 rfl SpX_ok ?_
      simp only [wL0, wLc, true_and, w1, lg0, lgi, lgr, lgl, w0, w82]
      rw [show (1 : Int32) = nI 1 from rfl, nI_add]
      by_cases c40 : (40 : Int32) < nI (v + 1)
      · exact b2Y c40 (hend _)
      · refine b2N c40 ?_
        refine PW_blk okK_leastSpare 2 rfl SpX_ok ?_
        simp only [wL0, wLc, true_and, w1, lg0, lgi, lgr, lgl, w0, w79]
        exact b3N (encM_ne (by omega)) (hend _)
theorem wireO_b (hI : Inv S) : ∀ k, k < nv S 3 → ∀ v, wireO S k = some v → v ≤ 133120 := by
  intro k hk v h
  unfold wireO at h
  have hn := hI.1.2
  have hT := p2le _ hn
  split at h
  · cases h
  · have hl := or_lt hI.2.1.2 hk
    exact lst_lt hI (by omega) h
theorem X_bestWire (hX : XC σ 1 S) (hI : Inv S) (hk : ∀ σ', Wf σ σ' → K (some (.int (encM (fO (amU (wireO S) (nv S 3)))))) σ') : Rn 0 ev mK_bestWire [.ref 50] σ K := by
  have hc := CH1
  have hn10 := hI.1.2
  have hT := p2le _ hn10
  have hlt : nv S 2 < 1024 := by have := hI.2.1.1.2; omega
  refine Rn_V (by decide) rc2 rfl rfl ?_
  refine PW_blk okK_bestWire 0 rfl SpX_ok ?_
  simp only [wL0, wLc, true_and, w0, w4, ls00, ls0i, ls0r, ls0l, lsi, lsr, lsl, Option.map_some, w71]
  have key := lp_up (n := nv S 3) (P := fun l => ∀ σ', Wf σ σ' → PW 0 ev mK_bestWire 8 [.ref 50, .int (encM (fO (amU (wireO S) l))), .int (encM (sO (amU (wireO S) l))), .int (nI l)] [] σ' K) ?_ ?_ 0 (Nat.zero_le _) σ Wf_r
  · exact key
  · intro σ' hW
    refine PW_blk okK_bestWire 1 rfl SpX_ok ?_
    simp only [wL0, wLc, true_and, w1, lg0, lgi, lgr, lgl, w2, w35, kX50, rX50_0, w33, CH_k hc, w81, x3 (Wf_X hW hX) hI]
    refine b3N (nI_nlt (Nat.le_refl _) (by omega)) ?_
    refine PW_blk okK_bestWire 6 rfl SpX_ok ?_
    simp only [wL0, wLc, true_and, w1, lg0, lgi, lgr, lgl, w84]
    exact hk σ' hW
  · intro l hl ih σ' hW
    have hX' := Wf_X hW hX
    have skip : ∀ σ', Wf σ σ' → amU (wireO S) (l + 1) = amU (wireO S) l → ∀ x : List Value, x.take 4 = [.ref 50, .int (encM (fO (amU (wireO S) l))), .int (encM (sO (amU (wireO S) l))), .int (nI l)] → PW 0 ev mK_bestWire 62 x [] σ' K := by
      intro σ' hW e x hx
      refine PW_loc 4 ?_
      rw [hx]
      rw [e] at ih
      refine PW_blk okK_bestWire 5 rfl SpX_ok ?_
      simp only [wL0, wLc, true_and, w7, lg0, lgi, lgr, lgl, ls00, ls0i, ls0r, ls0l, lsi, lsr, lsl, Option.map_some, w70]
      rw [show (1 : Int32) = nI 1 from rfl, nI_add]
      exact ih σ' hW
    refine PW_blk okK_bestWire 1 rfl SpX_ok ?_
    simp only [wL0, wLc, true_and, w1, lg0, lgi, lgr, lgl, w2, w35, kX50, rX50_0, w33, CH_k hc, w81, x3 hX' hI]
    refine b3Y (nI_lt hl (by omega)) ?_
    refine PW_blk okK_bestWire 2 rfl SpX_ok ?_
    simp only [wL0, wLc, true_and, w2, lg0, lgi, lgr, lgl, w35, kX50, rX50_0, w1, w54_2, q40, q41, q42, q43, q44, Option.toList_some, Option.toList_none, List.cons_append, List.nil_append, xp_C_isOff, CH_e hc, w73, x4 hX' hI]
    unfold isNF
    rw [bit1 (by omega) (by omega)]
    by_cases hb : (nv S 2).testBit l = true
    · rw [if_pos hb, if_neg (by decide)]
      refine b3N (by decide) ?_
      refine skip σ' hW (amU_no ?_) _ rfl
      unfold wireO
      rw [if_pos hb]
    rw [if_neg hb, if_pos rfl]
    refine b3Y rfl ?_
    have ew : wireO S l = lst S 0 (nv S 2 ||| 2 ^ l) := by unfold wireO; rw [if_neg hb]
    refine PW_blk okK_bestWire 3 rfl SpX_ok ?_
    simp only [wL0, wLc, true_and, w2, lg0, lgi, lgr, lgl, w35, kX50, rX50_1, rX50_0, w33, CH_k hc, w0, w1, w19, w17, w54_3, q40, q41, q42, q43, q44, Option.toList_some, Option.toList_none, List.cons_append, List.nil_append, w4, ls00, ls0i, ls0r, ls0l, lsi, lsr, lsl, Option.map_some, w81, x4 hX' hI, nI_sh1 l (by omega), fa_or]
    refine X_leastFrom (b := 0) hX' hI (or_lt hI.2.1.2 hl) (by decide) (fun σ2 hW2 _ _ _ _ => ?_)
    simp only [wL0, wLc, true_and, w2, lg0, lgi, lgr, lgl, w35, kX50, rX50_1, rX50_0, w33, CH_k hc, w0, w1, w19, w17, w54_3, q40, q41, q42, q43, q44, Option.toList_some, Option.toList_none, List.cons_append, List.nil_append, w4, ls00, ls0i, ls0r, ls0l, lsi, lsr, lsl, Option.map_some, w81]
    rw [← ew]
    by_cases h : encM (wireO S l) < encM (sO (amU (wireO S) l))
    · refine b3Y h ?_
      obtain ⟨v, hv, e⟩ := amU_lt (wireO_b hI) hl h
      rw [e] at ih
      refine PW_blk okK_bestWire 4 rfl SpX_ok ?_
      simp only [wL0, wLc, true_and, w1, lg0, lgi, lgr, lgl, w4, ls00, ls0i, ls0r, ls0l, lsi, lsr, lsl, Option.map_some, w71]
      rw [hv]
      refine PW_blk okK_bestWire 5 rfl SpX_ok ?_
      simp only [wL0, wLc, true_and, w7, lg0, lgi, lgr, lgl, ls00, ls0i, ls0r, ls0l, lsi, lsr, lsl, Option.map_some, w70]
      refine PW_loc 4 ?_
      rw [show (1 : Int32) = nI 1 from rfl, nI_add]
      exact ih σ2 (Wf_t hW hW2)
    · refine b3N h ?_
      exact skip σ2 (Wf_t hW hW2) (amU_nlt (wireO_b hI) hl h) _ rfl
end SY
