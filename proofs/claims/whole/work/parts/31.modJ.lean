/-! what he needs, what smiths should do: searches over changed chests -/
def can (S : Nat → Int32) : Prop := lst S 2 (nv S 2) ≠ none
noncomputable def toolsU (S : Nat → Int32) : Nat → Option Nat
  | 0 => none
  | s + 1 => match toolsU S s with
    | none => cif (can (upd S 4 (nI s))) (some s) none
    | some b => cif (pcn s < pcn b ∧ can (upd S 4 (nI s))) (some s) (some b)
def eB (r : Option Nat) : Int32 := match r with
  | none => -1
  | some b => nI b
def amU (f : Nat → Option Nat) : Nat → Option (Nat × Nat)
  | 0 => none
  | k + 1 => match f k with
    | none => amU f k
    | some v => match amU f k with
      | none => some (k, v)
      | some (b, l) => if v < l then some (k, v) else some (b, l)
def axU (f : Nat → Option Nat) : Nat → Option (Nat × Nat)
  | 0 => none
  | k + 1 => match f k with
    | none => axU f k
    | some v => match axU f k with
      | none => some (k, v)
      | some (b, l) => if l < v then some (k, v) else some (b, l)
def eA (r : Option (Nat × Nat)) : Int32 := match r with
  | none => -1
  | some (b, _) => nI b
def eL (r : Option (Nat × Nat)) : Int32 := match r with
  | none => 99999999
  | some (_, l) => nI l
def eM (r : Option (Nat × Nat)) : Int32 := match r with
  | none => -1
  | some (_, l) => nI l
theorem amU_b {f : Nat → Option Nat} (hf : ∀ k v, f k = some v → v ≤ 133120) : ∀ n b l, amU f n = some (b, l) → b < n ∧ l ≤ 133120
  | 0, b, l, h => by cases h
  | n + 1, b, l, h => by
    have ih := amU_b hf n
    unfold amU at h
    cases e : f n with
    | none => rw [e] at h; have := ih b l h; omega
    | some v =>
      have hv := hf n v e
      rw [e] at h
      cases e2 : amU f n with
      | none => rw [e2] at h; cases h; omega
      | some q =>
        obtain ⟨b', l'⟩ := q
        have hq := ih b' l' e2
        rw [e2] at h
        have h2 : (if v < l' then some (n, v) else some (b', l')) = some (b, l) := h
        split at h2 <;> cases h2 <;> omega
theorem axU_b {f : Nat → Option Nat} (hf : ∀ k v, f k = some v → v ≤ 133120) : ∀ n b l, axU f n = some (b, l) → b < n ∧ l ≤ 133120
  | 0, b, l, h => by cases h
  | n + 1, b, l, h => by
    have ih := axU_b hf n
    unfold axU at h
    cases e : f n with
    | none => rw [e] at h; have := ih b l h; omega
    | some v =>
      have hv := hf n v e
      rw [e] at h
      cases e2 : axU f n with
      | none => rw [e2] at h; cases h; omega
      | some q =>
        obtain ⟨b', l'⟩ := q
        have hq := ih b' l' e2
        rw [e2] at h
        have h2 : (if l' < v then some (n, v) else some (b', l')) = some (b, l) := h
        split at h2 <;> cases h2 <;> omega
theorem eL_FAR {f : Nat → Option Nat} (hf : ∀ k v, f k = some v → v ≤ 133120) {k : Nat} : ¬ (99999999 : Int32) < eL (amU f k) := by
  cases e : amU f k with
  | none => exact (by decide : ¬ (99999999 : Int32) < 99999999)
  | some q =>
    obtain ⟨b, l⟩ := q
    have := amU_b hf k b l e
    show ¬ (99999999 : Int32) < nI l
    rw [show (99999999 : Int32) = nI 99999999 from rfl, nI_lt_iff (by decide) (by omega)]
    omega
theorem am_lt {f : Nat → Option Nat} (hf : ∀ k v, f k = some v → v ≤ 133120) {k : Nat} (h : encF (f k) < eL (amU f k)) : eA (amU f (k + 1)) = nI k ∧ eL (amU f (k + 1)) = encF (f k) := by
  unfold amU
  cases e : f k with
  | none => rw [e] at h; exact absurd h (eL_FAR hf)
  | some v =>
    have hv := hf k v e
    cases e2 : amU f k with
    | none => exact ⟨rfl, rfl⟩
    | some q =>
      obtain ⟨b, l⟩ := q
      have hb := amU_b hf k b l e2
      rw [e, e2] at h
      have h2 : v < l := (nI_lt_iff (by omega) (by omega)).mp h
      show eA (if v < l then some (k, v) else some (b, l)) = _ ∧ eL (if v < l then some (k, v) else some (b, l)) = _
      rw [if_pos h2]
      exact ⟨rfl, rfl⟩
theorem am_nlt {f : Nat → Option Nat} (hf : ∀ k v, f k = some v → v ≤ 133120) {k : Nat} (h : ¬ encF (f k) < eL (amU f k)) : amU f (k + 1) = amU f k := by
  conv => lhs; unfold amU
  cases e : f k with
  | none => rfl
  | some v =>
    have hv := hf k v e
    cases e2 : amU f k with
    | none => rw [e, e2] at h; exact absurd (encF_lt (by omega)) h
    | some q =>
      obtain ⟨b, l⟩ := q
      have hb := amU_b hf k b l e2
      rw [e, e2] at h
      have h2 : ¬ v < l := fun z => h ((nI_lt_iff (by omega) (by omega)).mpr z)
      show (if v < l then some (k, v) else some (b, l)) = _
      rw [if_neg h2]
theorem eA_neg {r : Option (Nat × Nat)} (h : ∀ b l, r = some (b, l) → b < 1024) : eA r < 0 ↔ r = none := by
  cases r with
  | none => exact ⟨fun _ => rfl, fun _ => by decide⟩
  | some q =>
    obtain ⟨b, l⟩ := q
    have := h b l rfl
    exact ⟨fun z => absurd z (nI_nlt (a := b) (b := 0) (Nat.zero_le _) (by omega)), fun z => by cases z⟩
theorem eB_neg {r : Option Nat} (h : ∀ b, r = some b → b < 1024) : eB r < 0 ↔ r = none := by
  cases r with
  | none => exact ⟨fun _ => rfl, fun _ => by decide⟩
  | some b =>
    have := h b rfl
    exact ⟨fun z => absurd z (nI_nlt (a := b) (b := 0) (Nat.zero_le _) (by omega)), fun z => by cases z⟩
theorem toolsU_b {S : Nat → Int32} : ∀ n b, toolsU S n = some b → b < n
  | 0, b, h => by cases h
  | n + 1, b, h => by
    have ih := toolsU_b (S := S) n
    unfold toolsU at h
    cases e : toolsU S n with
    | none =>
      rw [e] at h
      have h2 : cif (can (upd S 4 (nI n))) (some n) none = some b := h
      by_cases c : can (upd S 4 (nI n))
      · rw [cif_y c] at h2; cases h2; omega
      · rw [cif_n c] at h2; cases h2
    | some b' =>
      have := ih b' e
      rw [e] at h
      have h2 : cif (pcn n < pcn b' ∧ can (upd S 4 (nI n))) (some n) (some b') = some b := h
      by_cases c : pcn n < pcn b' ∧ can (upd S 4 (nI n))
      · rw [cif_y c] at h2; cases h2; omega
      · rw [cif_n c] at h2; cases h2; omega
theorem sr_comm {σ : St2} {k k' : Nat} {r r' : Nat → Int32} (h : k ≠ k') : sr (sr σ k r) k' r' = sr (sr σ k' r') k r := by
  unfold sr
  congr 1
  funext a
  unfold upr
  by_cases h1 : a = k'
  · rw [if_pos h1, if_neg (fun e => h (e.symm.trans h1))]
    show r' = if a = k' then r' else _
    rw [if_pos h1]
  · rw [if_neg h1]
    show (if a = k then r else σ.1 a) = if a = k then r else if a = k' then r' else σ.1 a
    by_cases h2 : a = k
    · rw [if_pos h2, if_pos h2]
    · rw [if_neg h2, if_neg h2, if_neg h1]
/-- as Sm, S apart -/
def Sq (σ σ' : St2) : Prop := Sm σ (sr σ' 1 (σ.1 1))
theorem Sq_r {σ : St2} : Sq σ σ := by unfold Sq; rw [sr_self]; exact Sm_r
theorem Sq_sr {σ σ' : St2} {k : Nat} {r : Nat → Int32} (hk : kp k = false) (h0 : k ≠ 0) (h : Sq σ σ') : Sq σ (sr σ' k r) := by
  unfold Sq at *
  rw [sr_comm (fun e => by subst e; exact absurd hk (by decide))]
  exact Sm_sr hk h0 h
theorem Sq_1 {σ σ' : St2} {r : Nat → Int32} (h : Sq σ σ') : Sq σ (sr σ' 1 r) := by
  unfold Sq at *
  rw [sr_sr]
  exact h
theorem Sq_f {σ σ' : St2} {j : Nat} {v : Int32} (h3 : j ≠ 3) (h11 : j ≠ 11) (h : Sq σ σ') : Sq σ (sr σ' 0 (upd (σ'.1 0) j v)) := by
  unfold Sq at *
  rw [sr_comm (by decide)]
  have e : σ'.1 0 = (sr σ' 1 (σ.1 1)).1 0 := by rw [n1_0]
  rw [e]
  exact Sm_f h3 h11 h
theorem Sq_end {σ σ' : St2} {r : Nat → Int32} (h : Sq σ σ') (e : r = σ.1 1) : Sm σ (sr σ' 1 r) := by rw [e]; exact h
def wireF (S : Nat → Int32) (k : Nat) : Prop := True
noncomputable def wireO (S : Nat → Int32) (k : Nat) : Option Nat := if (nv S 2).testBit k then none else lst S 0 (nv S 2 ||| 2 ^ k)
noncomputable def kindO (S : Nat → Int32) (l k : Nat) : Option Nat := lst (upd S (tr l 0) (nI k)) 0 (nv S 2)
noncomputable def linkO (S : Nat → Int32) (p : Nat) : Option Nat := cif (p / 10 ≠ p % 10 ∧ p % 10 < nv S 3 ∧ (nv S (tr (p / 10) 8)).testBit (p % 10) = false) (lst (upd S (tr (p / 10) 8) (nI (nv S (tr (p / 10) 8) ||| 2 ^ (p % 10)))) 0 (nv S 2)) none
noncomputable def sparedO (S : Nat → Int32) (k : Nat) : Option Nat := if (nv S 6).testBit k then lst (upd S 6 (nI (dif (nv S 6) (2 ^ k)))) 0 (nv S 2) else none
section MJ
variable {ev : EV} {σ : St2} {K : PO}
theorem R_leastFrom' {σ : St2} {K : PO} {S : Nat → Int32} {fr b : Nat} (hS : σ.1 1 = S) (hI : Inv S) (hb : b ≤ 2) (hf : fr < 2 ^ nv S 3) (hk : ∀ r, K (some (.int (encF (lst S b fr)))) (sr σ 5 r)) : Rn 1 ev mM_leastFrom [.ref 0, .int (nI fr), .int (nI b)] σ K := by
  subst hS
  exact R_leastFrom hI hb hf (fun r _ => hk r)
theorem R_tools (hI : Inv (σ.1 1)) (h1 : toolsU (σ.1 1) 16 = none → ∀ σ', Sm σ σ' → K (some (.int (-1000004))) (noS σ' 3)) (h2 : ∀ b, toolsU (σ.1 1) 16 = some b → ∀ σ', Sm σ σ' → K (some (.int (nI b))) σ') : Rn 1 ev mM_tools [.ref 0] σ K := by
  have hoT := hI.2.1.2
  refine Rn_V (by decide) rc6 rfl rfl ?_
  refine PW_blk okM_tools 0 rfl SpM_ok ?_
  simp only [wL0, wLc, true_and, w2, lg0, lgi, lgr, lgl, w35, kM0, rM0, kM1, nM1, w0, w39, w4, ls00, ls0i, ls0r, ls0l, lsi, lsr, lsl, Option.map_some, tn0, vi0_120, tn4, vi4_120, w71]
  have key := lp_up (n := 16) (P := fun s => ∀ σ' x, Sq σ σ' → σ'.1 1 = upd (σ.1 1) 4 x → PW 1 ev mM_tools 11 [.ref 0, .int (σ.1 1 4), .int (eB (toolsU (σ.1 1) s)), .int (nI s)] [] σ' K) ?_ ?_ 0 (by decide) σ (σ.1 1 4) Sq_r (fa_upd_same rfl).symm
  · exact key
  · intro σ' x hq hx
    refine PW_blk okM_tools 1 rfl SpM_ok ?_
    simp only [wL0, wLc, true_and, w1, lg0, lgi, lgr, lgl, w0, w81]
    refine b3N (by decide) ?_
    refine PW_blk okM_tools 9 rfl SpM_ok ?_
    simp only [wL0, wLc, true_and, w2, lg0, lgi, lgr, lgl, w35, kM0, rM0, kM1, nM1, w0, w1, w40, tn4, vi4_120, w75, si_is, hx]
    have hS2 : Sm σ (sr σ' 1 (upd (upd (σ.1 1) 4 x) 4 (σ.1 1 4))) := Sq_end hq (by rw [fa_upd_twice]; exact fa_upd_same rfl)
    rw [eB_neg (fun b hb => by have := toolsU_b _ b hb; omega)]
    cases e : toolsU (σ.1 1) 16 with
    | none =>
      refine b3Y rfl ?_
      refine PW_blk okM_tools 10 rfl SpM_ok ?_
      simp only [wL0, wLc, true_and, w2, lg0, lgi, lgr, lgl, w0, w54_2, q40, q41, q42, q43, q44, Option.toList_some, Option.toList_none, List.cons_append, List.nil_append, sp_no, v7_0, v7_1, v7_2, v7_3, v7_4, v7_5, v7_6, w70]
      refine PW_blk okM_tools 12 rfl SpM_ok ?_
      simp only [wL0, w84]
      exact h1 e _ hS2
    | some b =>
      refine b3N (fun z => by cases z) ?_
      refine PW_blk okM_tools 11 rfl SpM_ok ?_
      simp only [wL0, wLc, true_and, w1, lg0, lgi, lgr, lgl, w71]
      refine PW_blk okM_tools 12 rfl SpM_ok ?_
      simp only [wL0, w84]
      exact h2 b e _ hS2
  · intro s hs ih σ' x hq hx
    have hIs : Inv (upd (σ.1 1) 4 (nI s)) := Inv_rule hI (w := 0) (by decide) (show s ≤ 15 by omega)
    have ecan : ∀ y, can (upd (σ.1 1) 4 y) = (lst (upd (σ.1 1) 4 y) 2 (nv (σ.1 1) 2) ≠ none) := fun y => by unfold can; rw [nv_ne (by decide)]
    have next : ∀ σ' x, Sq σ σ' → σ'.1 1 = upd (σ.1 1) 4 x → PW 1 ev mM_tools 61 [.ref 0, .int (σ.1 1 4), .int (eB (toolsU (σ.1 1) (s + 1))), .int (nI s)] [] σ' K := by
      intro σ' x hq hx
      refine PW_blk okM_tools 8 rfl SpM_ok ?_
      simp only [wL0, wLc, true_and, w7, lg0, lgi, lgr, lgl, ls00, ls0i, ls0r, ls0l, lsi, lsr, lsl, Option.map_some, w70]
      rw [show (1 : Int32) = nI 1 from rfl, nI_add]
      exact ih σ' x hq hx
    have try1 : ∀ σ' x, Sq σ σ' → σ'.1 1 = upd (σ.1 1) 4 x → (toolsU (σ.1 1) (s + 1) = cif (can (upd (σ.1 1) 4 (nI s))) (some s) (toolsU (σ.1 1) s)) → PW 1 ev mM_tools 32 [.ref 0, .int (σ.1 1 4), .int (eB (toolsU (σ.1 1) s)), .int (nI s)] [] σ' K := by
      intro σ' x hq hx he
      have eG : upd (upd (σ.1 1) 4 x) 4 (nI s) 2 = nI (nv (σ.1 1) 2) := by rw [updN (by decide), updN (by decide)]; exact hI.2.1.1.1
      refine PW_blk okM_tools 4 rfl SpM_ok ?_
      simp only [wL0, wLc, true_and, w2, lg0, lgi, lgr, lgl, w35, kM0, rM0, kM1, nM1, w0, w1, w40, w39, w54_3, q40, q41, q42, q43, q44, Option.toList_some, Option.toList_none, List.cons_append, List.nil_append, tn2, vi2_120, tn4, vi4_120, w81, si_is, sr1, hx, eG]
      refine R_leastFrom' (S := upd (σ.1 1) 4 (nI s)) (b := 2) (by rw [sr1, fa_upd_twice]) hIs (by decide) (by rw [nv_ne (by decide)]; exact hoT) (fun r => ?_)
      simp only [wL0, wLc, true_and, w2, lg0, lgi, lgr, lgl, w35, kM0, rM0, kM1, nM1, w0, w1, w40, w39, w54_3, q40, q41, q42, q43, q44, Option.toList_some, Option.toList_none, List.cons_append, List.nil_append, tn2, vi2_120, tn4, vi4_120, w81]
      have hq2 : Sq σ (sr (sr σ' 1 (upd (upd (σ.1 1) 4 x) 4 (nI s))) 5 r) := Sq_sr (by decide) (by decide) (Sq_1 hq)
      have hx2 : (sr (sr σ' 1 (upd (upd (σ.1 1) 4 x) 4 (nI s))) 5 r).1 1 = upd (σ.1 1) 4 (nI s) := by rw [n5_1, sr1, fa_upd_twice]
      cases e : lst (upd (σ.1 1) 4 (nI s)) 2 (nv (σ.1 1) 2) with
      | none =>
        refine b3N (show ¬ encF none < 99999999 by decide) ?_
        rw [cif_n (by rw [ecan, e]; exact fun z => z rfl)] at he
        refine PW_blk okM_tools 6 rfl SpM_ok ?_
        simp only [wL0, wLc, true_and, w1, lg0, lgi, lgr, lgl, w71]
        refine PW_blk okM_tools 7 rfl SpM_ok ?_
        simp only [wL0, wLc, true_and, w4, ls00, ls0i, ls0r, ls0l, lsi, lsr, lsl, Option.map_some, w71]
        rw [← he]
        exact next _ _ hq2 hx2
      | some v =>
        have hv := lst_lt hIs (by have := p2le _ hI.1.2; omega) e
        refine b3Y (encF_lt (v := v) (by omega)) ?_
        rw [cif_y (by rw [ecan, e]; exact fun z => by cases z)] at he
        refine PW_blk okM_tools 5 rfl SpM_ok ?_
        simp only [wL0, wLc, true_and, w1, lg0, lgi, lgr, lgl, w70]
        refine PW_blk okM_tools 7 rfl SpM_ok ?_
        simp only [wL0, wLc, true_and, w4, ls00, ls0i, ls0r, ls0l, lsi, lsr, lsl, Option.map_some, w71]
        have nx := next _ _ hq2 hx2
        rw [he] at nx
        exact nx
    refine PW_blk okM_tools 1 rfl SpM_ok ?_
    simp only [wL0, wLc, true_and, w1, lg0, lgi, lgr, lgl, w0, w81]
    refine b3Y (nI_lt hs (by decide)) ?_
    refine PW_blk okM_tools 2 rfl SpM_ok ?_
    simp only [wL0, wLc, true_and, w1, lg0, lgi, lgr, lgl, w74]
    rw [eB_neg (fun b hb => by have := toolsU_b _ b hb; omega)]
    cases e : toolsU (σ.1 1) s with
    | none =>
      refine b2Y rfl ?_
      rw [e] at try1
      refine try1 σ' x hq hx ?_
      show (match toolsU (σ.1 1) s with | none => _ | some b => _) = _
      rw [e]
    | some b =>
      have hb := toolsU_b _ b e
      refine b2N (fun z => by cases z) ?_
      have e2 : toolsU (σ.1 1) (s + 1) = cif (pcn s < pcn b ∧ can (upd (σ.1 1) 4 (nI s))) (some s) (some b) := by
        show (match toolsU (σ.1 1) s with | none => _ | some b => _) = _
        rw [e]
      refine PW_blk okM_tools 3 rfl SpM_ok ?_
      simp only [wL0, wLc, true_and, w1, lg0, lgi, lgr, lgl, w55_1, q40, q41, q42, q43, q44, Option.toList_some, Option.toList_none, List.cons_append, List.nil_append, w81]
      refine R_bits (by omega) ?_
      simp only [wL0, wLc, true_and, w1, lg0, lgi, lgr, lgl, w55_1, q40, q41, q42, q43, q44, Option.toList_some, Option.toList_none, List.cons_append, List.nil_append, w81]
      refine R_bits (a := b) (by omega) ?_
      simp only [wL0, wLc, true_and, w1, lg0, lgi, lgr, lgl, w55_1, q40, q41, q42, q43, q44, Option.toList_some, Option.toList_none, List.cons_append, List.nil_append, w81]
      have p1 := pcn_le s
      have p2 := pcn_le b
      rw [nI_lt_iff (by omega) (by omega)]
      by_cases hc : pcn s < pcn b
      · refine b3Y hc ?_
        rw [e] at try1
        refine try1 σ' x hq hx ?_
        rw [e2]
        by_cases h3 : can (upd (σ.1 1) 4 (nI s))
        · rw [cif_y ⟨hc, h3⟩, cif_y h3]
        · rw [cif_n (fun z => h3 z.2), cif_n h3]
      · refine b3N hc ?_
        rw [cif_n (fun z => hc z.1)] at e2
        rw [e2] at next
        exact next σ' x hq hx
theorem R_spare (hI : Inv (σ.1 1)) (h1 : (∀ v, v ≤ 40 → ¬ can (upd (σ.1 1) 5 (nI v))) → ∀ σ', Sm σ σ' → K (some (.int (-1000004))) (noS σ' 3)) (h2 : ∀ v, v ≤ 40 → can (upd (σ.1 1) 5 (nI v)) → (∀ u, u < v → ¬ can (upd (σ.1 1) 5 (nI u))) → ∀ σ', Sm σ σ' → K (some (.int (nI v))) σ') : Rn 1 ev mM_spare [.ref 0] σ K := by
  have hoT := hI.2.1.2
  refine Rn_V (by decide) rc6 rfl rfl ?_
  refine PW_blk okM_spare 0 rfl SpM_ok ?_
  simp only [wL0, wLc, true_and, w2, lg0, lgi, lgr, lgl, w35, kM0, rM0, kM1, nM1, w0, w39, w4, ls00, ls0i, ls0r, ls0l, lsi, lsr, lsl, Option.map_some, tn0, vi0_120, tn5, vi5_120, w71]
  have key := lp_up (n := 41) (P := fun v => ∀ σ' x, Sq σ σ' → σ'.1 1 = upd (σ.1 1) 5 x → (∀ u, u < v → ¬ can (upd (σ.1 1) 5 (nI u))) → PW 1 ev mM_spare 11 [.ref 0, .int (σ.1 1 5), .int (nI v), .int 0] [] σ' K) ?_ ?_ 0 (by decide) σ (σ.1 1 5) Sq_r (fa_upd_same rfl).symm (fun u hu => absurd hu (Nat.not_lt_zero _))
  · exact key
  · intro σ' x hq hx hno
    refine PW_blk okM_spare 1 rfl SpM_ok ?_
    simp only [wL0, wLc, true_and, w1, lg0, lgi, lgr, lgl, w0, w82]
    refine b2Y (by decide) ?_
    refine PW_blk okM_spare 10 rfl SpM_ok ?_
    simp only [wL0, wLc, true_and, w2, lg0, lgi, lgr, lgl, w35, kM0, rM0, kM1, nM1, w0, w1, w40, tn5, vi5_120, w72, si_is, hx]
    refine b2Y trivial ?_
    have hS2 : Sm σ (sr σ' 1 (upd (upd (σ.1 1) 5 x) 5 (σ.1 1 5))) := Sq_end hq (by rw [fa_upd_twice]; exact fa_upd_same rfl)
    refine PW_blk okM_spare 12 rfl SpM_ok ?_
    simp only [wL0, wLc, true_and, w2, lg0, lgi, lgr, lgl, w0, w54_2, q40, q41, q42, q43, q44, Option.toList_some, Option.toList_none, List.cons_append, List.nil_append, sp_no, v7_0, v7_1, v7_2, v7_3, v7_4, v7_5, v7_6, w71]
    refine PW_blk okM_spare 13 rfl SpM_ok ?_
    simp only [wL0, w84]
    exact h1 (fun v hv => hno v (by omega)) _ hS2
  · intro v hv ih σ' x hq hx hno
    have hIs : Inv (upd (σ.1 1) 5 (nI v)) := Inv_rule hI (w := 1) (by decide) (show v ≤ 40 by omega)
    have ecan : ∀ y, can (upd (σ.1 1) 5 y) = (lst (upd (σ.1 1) 5 y) 2 (nv (σ.1 1) 2) ≠ none) := fun y => by unfold can; rw [nv_ne (by decide)]
    have eG : upd (upd (σ.1 1) 5 x) 5 (nI v) 2 = nI (nv (σ.1 1) 2) := by rw [updN (by decide), updN (by decide)]; exact hI.2.1.1.1
    refine PW_blk okM_spare 1 rfl SpM_ok ?_
    simp only [wL0, wLc, true_and, w1, lg0, lgi, lgr, lgl, w0, w82]
    refine b2N (nI_nlt (a := 40) (b := v) (by omega) (by decide)) ?_
    refine PW_blk okM_spare 2 rfl SpM_ok ?_
    simp only [wL0, wLc, true_and, w1, lg0, lgi, lgr, lgl, w73]
    refine b3Y trivial ?_
    refine PW_blk okM_spare 3 rfl SpM_ok ?_
    simp only [wL0, wLc, true_and, w2, lg0, lgi, lgr, lgl, w35, kM0, rM0, kM1, nM1, w0, w1, w40, w39, w54_3, q40, q41, q42, q43, q44, Option.toList_some, Option.toList_none, List.cons_append, List.nil_append, tn2, vi2_120, tn5, vi5_120, w81, si_is, sr1, hx, eG]
    refine R_leastFrom' (S := upd (σ.1 1) 5 (nI v)) (b := 2) (by rw [sr1, fa_upd_twice]) hIs (by decide) (by rw [nv_ne (by decide)]; exact hoT) (fun r => ?_)
    simp only [wL0, wLc, true_and, w2, lg0, lgi, lgr, lgl, w35, kM0, rM0, kM1, nM1, w0, w1, w40, w39, w54_3, q40, q41, q42, q43, q44, Option.toList_some, Option.toList_none, List.cons_append, List.nil_append, tn2, vi2_120, tn5, vi5_120, w81]
    have hq2 : Sq σ (sr (sr σ' 1 (upd (upd (σ.1 1) 5 x) 5 (nI v))) 5 r) := Sq_sr (by decide) (by decide) (Sq_1 hq)
    have hx2 : (sr (sr σ' 1 (upd (upd (σ.1 1) 5 x) 5 (nI v))) 5 r).1 1 = upd (σ.1 1) 5 (nI v) := by rw [n5_1, sr1, fa_upd_twice]
    cases e : lst (upd (σ.1 1) 5 (nI v)) 2 (nv (σ.1 1) 2) with
    | none =>
      refine b3N (show ¬ encF none < 99999999 by decide) ?_
      refine PW_blk okM_spare 5 rfl SpM_ok ?_
      simp only [wL0, wLc, true_and, w0, w71]
      refine PW_blk okM_spare 6 rfl SpM_ok ?_
      simp only [wL0, wLc, true_and, w4, ls00, ls0i, ls0r, ls0l, lsi, lsr, lsl, Option.map_some, w1, lg0, lgi, lgr, lgl, w72]
      refine b2Y trivial ?_
      refine PW_blk okM_spare 8 rfl SpM_ok ?_
      simp only [wL0, wLc, true_and, w0, w71]
      refine PW_blk okM_spare 9 rfl SpM_ok ?_
      simp only [wL0, wLc, true_and, w11, w4, ls00, ls0i, ls0r, ls0l, lsi, lsr, lsl, Option.map_some, w70]
      rw [show (1 : Int32) = nI 1 from rfl, nI_add]
      refine ih _ _ hq2 hx2 (fun u hu => ?_)
      by_cases c : u = v
      · subst c; rw [ecan, e]; exact fun z => z rfl
      · exact hno u (by omega)
    | some w =>
      have hw := lst_lt hIs (by have := p2le _ hI.1.2; omega) e
      refine b3Y (encF_lt (v := w) (by omega)) ?_
      refine PW_blk okM_spare 4 rfl SpM_ok ?_
      simp only [wL0, wLc, true_and, w0, w70]
      refine PW_blk okM_spare 6 rfl SpM_ok ?_
      simp only [wL0, wLc, true_and, w4, ls00, ls0i, ls0r, ls0l, lsi, lsr, lsl, Option.map_some, w1, lg0, lgi, lgr, lgl, w72]
      refine b2N (by decide) ?_
      refine PW_blk okM_spare 7 rfl SpM_ok ?_
      simp only [wL0, wLc, true_and, w0, w70]
      refine PW_blk okM_spare 9 rfl SpM_ok ?_
      simp only [wL0, wLc, true_and, w11, w4, ls00, ls0i, ls0r, ls0l, lsi, lsr, lsl, Option.map_some, w70]
      rw [show (0 : Int32) = nI 0 from rfl, nI_add, Nat.add_zero]
      refine PW_blk okM_spare 1 rfl SpM_ok ?_
      simp only [wL0, wLc, true_and, w1, lg0, lgi, lgr, lgl, w0, w82]
      refine b2N (nI_nlt (a := 40) (b := v) (by omega) (by decide)) ?_
      refine PW_blk okM_spare 2 rfl SpM_ok ?_
      simp only [wL0, wLc, true_and, w1, lg0, lgi, lgr, lgl, w73]
      refine b3N (by decide) ?_
      refine PW_blk okM_spare 10 rfl SpM_ok ?_
      simp only [wL0, wLc, true_and, w2, lg0, lgi, lgr, lgl, w35, kM0, rM0, kM1, nM1, w0, w1, w40, tn5, vi5_120, w72, si_is, hx2]
      refine b2N (by decide) ?_
      have hS2 : Sm σ (sr (sr (sr σ' 1 (upd (upd (σ.1 1) 5 x) 5 (nI v))) 5 r) 1 (upd (upd (σ.1 1) 5 (nI v)) 5 (σ.1 1 5))) := Sq_end hq2 (by rw [fa_upd_twice]; exact fa_upd_same rfl)
      refine PW_blk okM_spare 11 rfl SpM_ok ?_
      simp only [wL0, wLc, true_and, w1, lg0, lgi, lgr, lgl, w70]
      refine PW_blk okM_spare 13 rfl SpM_ok ?_
      simp only [wL0, w84]
      exact h2 v (by omega) (by rw [ecan, e]; exact fun z => by cases z) hno _ hS2
theorem R_wire (hI : Inv (σ.1 1)) (h1 : amU (wireO (σ.1 1)) (nv (σ.1 1) 3) = none → ∀ σ', Sm σ σ' → K (some (.int (-1000004))) (noS σ' 3)) (h2 : ∀ b l, amU (wireO (σ.1 1)) (nv (σ.1 1) 3) = some (b, l) → ∀ σ', Sm σ σ' → K (some (.int (nI b))) σ') : Rn 1 ev mM_wire [.ref 0] σ K := by
  have hG := hI.2.1.1
  have hoT := hI.2.1.2
  have hn := hI.1.2
  have hT := p2le _ hn
  have hf : ∀ k v, k < nv (σ.1 1) 3 → wireO (σ.1 1) k = some v → v ≤ 133120 := by
    intro k v hk h
    unfold wireO at h
    split at h
    · cases h
    · exact lst_lt hI (by have := or_lt hoT hk; omega) h
  have hfa : ∀ k v, (fun k => if k < nv (σ.1 1) 3 then wireO (σ.1 1) k else none) k = some v → v ≤ 133120 := by
    intro k v h
    dsimp only at h
    split at h
    next hk => exact hf k v hk h
    next => cases h
  have ext : ∀ m, m ≤ nv (σ.1 1) 3 → amU (fun k => if k < nv (σ.1 1) 3 then wireO (σ.1 1) k else none) m = amU (wireO (σ.1 1)) m := by
    intro m
    induction m with
    | zero => intro _; rfl
    | succ m ih => intro hm; unfold amU; rw [ih (by omega), if_pos (by omega)]
  rw [← ext _ (Nat.le_refl _)] at h1 h2
  refine Rn_V (by decide) rc6 rfl rfl ?_
  refine PW_blk okM_wire 0 rfl SpM_ok ?_
  simp only [wL0, wLc, true_and, w0, w4, ls00, ls0i, ls0r, ls0l, lsi, lsr, lsl, Option.map_some, w71]
  generalize hF : (fun k => if k < nv (σ.1 1) 3 then wireO (σ.1 1) k else none) = F at *
  have key := lp_up (n := nv (σ.1 1) 3) (P := fun k => ∀ σ', Sm σ σ' → PW 1 ev mM_wire 7 [.ref 0, .int (eA (amU F k)), .int (eL (amU F k)), .int (nI k)] [] σ' K) ?_ ?_ 0 (Nat.zero_le _) σ Sm_r
  · exact key
  · intro σ' hS
    have e1 : σ'.1 1 = σ.1 1 := hS.1 1 rfl
    refine PW_blk okM_wire 1 rfl SpM_ok ?_
    simp only [wL0, wLc, true_and, w1, lg0, lgi, lgr, lgl, w2, w35, kM0, rM0, kM1, nM1, w0, w39, tn3, vi3_120, w81, e1, hI.1.1]
    refine b3N (nI_nlt (Nat.le_refl _) (by omega)) ?_
    refine PW_blk okM_wire 12 rfl SpM_ok ?_
    simp only [wL0, wLc, true_and, w1, lg0, lgi, lgr, lgl, w75]
    rw [eA_neg (fun b l hb => by have := amU_b hfa _ b l hb; omega)]
    cases e : amU F (nv (σ.1 1) 3) with
    | none =>
      refine b3Y rfl ?_
      refine PW_blk okM_wire 13 rfl SpM_ok ?_
      simp only [wL0, wLc, true_and, w2, lg0, lgi, lgr, lgl, w0, w54_2, q40, q41, q42, q43, q44, Option.toList_some, Option.toList_none, List.cons_append, List.nil_append, sp_no, v7_0, v7_1, v7_2, v7_3, v7_4, v7_5, v7_6, w70]
      refine PW_blk okM_wire 15 rfl SpM_ok ?_
      simp only [wL0, w84]
      exact h1 e _ hS
    | some q =>
      obtain ⟨b, l⟩ := q
      refine b3N (fun z => by cases z) ?_
      refine PW_blk okM_wire 14 rfl SpM_ok ?_
      simp only [wL0, wLc, true_and, w1, lg0, lgi, lgr, lgl, w71]
      refine PW_blk okM_wire 15 rfl SpM_ok ?_
      simp only [wL0, w84]
      exact h2 b l e _ hS
  · intro k hk ih σ' hS
    have e1 : σ'.1 1 = σ.1 1 := hS.1 1 rfl
    have hFk : F k = wireO (σ.1 1) k := by rw [← hF]; exact if_pos hk
    have last : ∀ σ', Sm σ σ' → PW 1 ev mM_wire 50 [.ref 0, .int (eA (amU F k)), .int (eL (amU F k)), .int (nI k)] [.int (encF (F k))] σ' K := by
      intro σ' hS
      refine PW_blk okM_wire 5 rfl SpM_ok ?_
      simp only [wL0, wLc, true_and, w4, ls00, ls0i, ls0r, ls0l, lsi, lsr, lsl, Option.map_some, w1, lg0, lgi, lgr, lgl, w81]
      by_cases c : encF (F k) < eL (amU F k)
      · obtain ⟨a1, a2⟩ := am_lt hfa c
        refine b3Y c ?_
        refine PW_blk okM_wire 6 rfl SpM_ok ?_
        simp only [wL0, wLc, true_and, w1, lg0, lgi, lgr, lgl, w70]
        refine PW_blk okM_wire 8 rfl SpM_ok ?_
        simp only [wL0, wLc, true_and, w4, ls00, ls0i, ls0r, ls0l, lsi, lsr, lsl, Option.map_some, w1, lg0, lgi, lgr, lgl, w81]
        refine b3Y c ?_
        refine PW_blk okM_wire 9 rfl SpM_ok ?_
        simp only [wL0, wLc, true_and, w1, lg0, lgi, lgr, lgl, w70]
        refine PW_blk okM_wire 11 rfl SpM_ok ?_
        simp only [wL0, wLc, true_and, w4, ls00, ls0i, ls0r, ls0l, lsi, lsr, lsl, Option.map_some, w7, lg0, lgi, lgr, lgl, w70]
        refine PW_loc 4 ?_
        rw [show (1 : Int32) = nI 1 from rfl, nI_add, ← a1, ← a2]
        exact ih σ' hS
      · have a1 := am_nlt hfa c
        refine b3N c ?_
        refine PW_blk okM_wire 7 rfl SpM_ok ?_
        simp only [wL0, wLc, true_and, w1, lg0, lgi, lgr, lgl, w71]
        refine PW_blk okM_wire 8 rfl SpM_ok ?_
        simp only [wL0, wLc, true_and, w4, ls00, ls0i, ls0r, ls0l, lsi, lsr, lsl, Option.map_some, w1, lg0, lgi, lgr, lgl, w81]
        refine b3N c ?_
        refine PW_blk okM_wire 10 rfl SpM_ok ?_
        simp only [wL0, wLc, true_and, w1, lg0, lgi, lgr, lgl, w71]
        refine PW_blk okM_wire 11 rfl SpM_ok ?_
        simp only [wL0, wLc, true_and, w4, ls00, ls0i, ls0r, ls0l, lsi, lsr, lsl, Option.map_some, w7, lg0, lgi, lgr, lgl, w70]
        refine PW_loc 4 ?_
        rw [show (1 : Int32) = nI 1 from rfl, nI_add, ← a1]
        exact ih σ' hS
    rw [hFk] at last
    unfold wireO at last
    refine PW_blk okM_wire 1 rfl SpM_ok ?_
    simp only [wL0, wLc, true_and, w1, lg0, lgi, lgr, lgl, w2, w35, kM0, rM0, kM1, nM1, w0, w39, tn3, vi3_120, w81, e1, hI.1.1]
    refine b3Y (nI_lt hk (by omega)) ?_
    refine PW_blk okM_wire 2 rfl SpM_ok ?_
    simp only [wL0, wLc, true_and, w2, lg0, lgi, lgr, lgl, w35, kM0, rM0, kM1, nM1, w0, w39, w1, w55_2, q40, q41, q42, q43, q44, Option.toList_some, Option.toList_none, List.cons_append, List.nil_append, sp_isIn, tn2, vi2_120, w72, e1, hG.1]
    rw [isInF_n (by omega) (by omega)]
    by_cases hb : (nv (σ.1 1) 2).testBit k = true
    · rw [if_pos hb] at last ⊢
      refine b2N (by decide) ?_
      refine PW_blk okM_wire 3 rfl SpM_ok ?_
      simp only [wL0, wLc, true_and, w0, w70]
      exact last σ' hS
    · rw [if_neg hb] at last ⊢
      refine b2Y rfl ?_
      refine PW_blk okM_wire 4 rfl SpM_ok ?_
      simp only [wL0, wLc, true_and, w2, lg0, lgi, lgr, lgl, w35, kM0, rM0, kM1, nM1, w0, w39, w1, w19, w17, w54_3, q40, q41, q42, q43, q44, Option.toList_some, Option.toList_none, List.cons_append, List.nil_append, tn0, vi0_120, tn1, vi1_120, tn2, vi2_120, w71, e1, hG.1, nI_sh1 k (by omega), fa_or]
      refine R_leastFrom' (S := σ.1 1) (b := 0) e1 hI (by decide) (or_lt hoT hk) (fun r => ?_)
      simp only [wL0, wLc, true_and, w2, lg0, lgi, lgr, lgl, w35, kM0, rM0, kM1, nM1, w0, w39, w1, w19, w17, w54_3, q40, q41, q42, q43, q44, Option.toList_some, Option.toList_none, List.cons_append, List.nil_append, tn0, vi0_120, tn1, vi1_120, tn2, vi2_120, w71]
      exact last _ (Sm_sr (by decide) (by decide) hS)
end MJ
