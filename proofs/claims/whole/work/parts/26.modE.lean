/-! rows of picks -/
def best (S : Nat → Int32) (o k : Nat) : Prop := mayok S k o ∧ ∃ v, lst S 0 (o ||| 2 ^ k) = some v ∧ lst S 0 o = some (takesN S k o + v)
def isPick (S : Nat → Int32) (o k : Nat) : Prop := k < nv S 3 ∧ best S o k ∧ ∀ j, j < k → ¬ best S o j
noncomputable def pick (S : Nat → Int32) (o : Nat) : Nat := Classical.epsilon (isPick S o)
noncomputable def rst (S : Nat → Int32) (o : Nat) : Nat → Nat
  | 0 => o
  | i + 1 => rst S o i ||| 2 ^ pick S (rst S o i)
def rowM (S : Nat → Int32) (o m : Nat) : Prop := outP S (rst S o m) ∧ ∀ j, j < m → ¬ outP S (rst S o j)
theorem rowM_u {S : Nat → Int32} {o m m' : Nat} (h : rowM S o m) (h' : rowM S o m') : m = m' := by
  rcases Nat.lt_trichotomy m m' with z | z | z
  · exact absurd h.1 (h'.2 m z)
  · exact z
  · exact absurd h'.1 (h.2 m' z)
theorem lst_out {S : Nat → Int32} (hn : nv S 3 ≤ 10) {b o : Nat} (ho : o < 1024) (h : outP S o) : lst S b o = some 0 := by
  rw [lst_eq hn ho, if_pos (show S 6 &&& (nI o ^^^ -1) = 0 from h)]
theorem lst_in {S : Nat → Int32} (hn : nv S 3 ≤ 10) {b o : Nat} (ho : o < 1024) (h : ¬ outP S o) : lst S b o = lsU S b o (lst S b) (nv S 3) := by
  rw [lst_eq hn ho, if_neg (show ¬ (S 6 &&& (nI o ^^^ -1) = 0) from h)]
theorem sr_eq {σ : St2} {k : Nat} {r : Nat → Int32} (h : r = σ.1 k) : sr σ k r = σ := by rw [h, sr_self]
theorem least_ex {p : Nat → Prop} : ∀ n, (∃ k, k < n ∧ p k) → ∃ k, k < n ∧ p k ∧ ∀ j, j < k → ¬ p j := by
  intro n
  induction n with
  | zero => intro ⟨k, h, _⟩; omega
  | succ n ih =>
    intro ⟨k, h1, h2⟩
    by_cases h : ∃ k, k < n ∧ p k
    · obtain ⟨a, x, y⟩ := ih h
      exact ⟨a, by omega, y⟩
    · have e : k = n := by
        rcases Nat.lt_or_ge k n with z | z
        · exact absurd ⟨k, z, h2⟩ h
        · omega
      subst e
      exact ⟨k, h1, h2, fun j hj hp => h ⟨j, hj, hp⟩⟩
theorem pick_eq {S : Nat → Int32} {o k : Nat} (h : isPick S o k) : pick S o = k := by
  have h2 : isPick S o (pick S o) := Classical.epsilon_spec ⟨k, h⟩
  rcases Nat.lt_trichotomy (pick S o) k with z | z | z
  · exact absurd h2.2.1 (h.2.2 _ z)
  · exact z
  · exact absurd h.2.1 (h2.2.2 _ z)
theorem pcU_or {o k : Nat} (h : o.testBit k = false) : ∀ m, pcU (o ||| 2 ^ k) m = pcU o m + (if k < m then 1 else 0)
  | 0 => rfl
  | m + 1 => by
    have ih := pcU_or h m
    unfold pcU
    rw [ih, bit_or]
    by_cases e : m = k
    · subst e
      simp [h]
    · have e1 : decide (m = k) = false := decide_eq_false e
      rw [e1, Bool.or_false]
      have e2 : (if k < m + 1 then 1 else 0) = (if k < m then 1 else (0 : Nat)) := by
        by_cases e2 : k < m
        · rw [if_pos e2, if_pos (by omega)]
        · rw [if_neg e2, if_neg (by omega)]
      rw [e2]
      omega
theorem pcn_or {o k : Nat} (hk : k < 10) (h : o.testBit k = false) : pcn (o ||| 2 ^ k) = pcn o + 1 := by
  unfold pcn
  rw [pcU_or h, if_pos hk]
theorem pick_ok {S : Nat → Int32} (hI : Inv S) {o : Nat} (ho : o < 1024) (hl : lst S 0 o ≠ none) (hno : ¬ outP S o) : isPick S o (pick S o) := by
  have hex : ∃ k, k < nv S 3 ∧ best S o k := by
    cases e : lst S 0 o with
    | none => exact absurd e hl
    | some w =>
      have e2 := e
      rw [lst_eq hI.1.2 ho, if_neg (show ¬ (S 6 &&& (nI o ^^^ -1) = 0) from hno)] at e2
      obtain ⟨k, hk, hm, v, hv, hc⟩ := lsU_some _ _ e2
      refine ⟨k, hk, hm, v, hv, ?_⟩
      rw [e, ← hc]
      rfl
  obtain ⟨k, h1, h2, h3⟩ := least_ex _ hex
  have := pick_eq (S := S) (o := o) ⟨h1, h2, h3⟩
  rw [this]
  exact ⟨h1, h2, h3⟩
theorem rst_ok {S : Nat → Int32} (hI : Inv S) {o : Nat} (ho : o < 2 ^ nv S 3) (hl : lst S 0 o ≠ none) : ∀ i, (∀ j, j < i → ¬ outP S (rst S o j)) → lst S 0 (rst S o i) ≠ none ∧ rst S o i < 2 ^ nv S 3 ∧ pcn (rst S o i) = pcn o + i ∧ o &&& rst S o i = o
  | 0, _ => ⟨hl, ho, rfl, Nat.and_self _⟩
  | i + 1, h => by
    obtain ⟨h1, h2, h3, h4⟩ := rst_ok hI ho hl i (fun j hj => h j (by omega))
    have hp2 := p2le _ hI.1.2
    have hn := hI.1.2
    have hp := pick_ok hI (by omega) h1 (h i (by omega))
    obtain ⟨hk, ⟨hm, v, hv, -⟩, -⟩ := hp
    have hb := why_bit hm
    show lst S 0 (rst S o i ||| 2 ^ pick S (rst S o i)) ≠ none ∧ rst S o i ||| 2 ^ pick S (rst S o i) < _ ∧ pcn (rst S o i ||| 2 ^ pick S (rst S o i)) = _ ∧ o &&& (rst S o i ||| 2 ^ pick S (rst S o i)) = o
    refine ⟨by (rw [hv]; intro z; cases z), or_lt h2 hk, by rw [pcn_or (by omega) hb, h3]; omega, ?_⟩
    rw [Nat.and_or_distrib_left, h4]
    apply Nat.eq_of_testBit_eq
    intro j
    rw [Nat.testBit_or, Nat.testBit_and]
    cases o.testBit j <;> simp
def pkQ (S : Nat → Int32) (o k : Nat) (f : Int32) : Prop := (f = -1 ∧ ∀ j, k ≤ j → j < nv S 3 → ¬ best S o j) ∨ ∃ p, k ≤ p ∧ p < nv S 3 ∧ f = nI p ∧ best S o p ∧ ∀ j, k ≤ j → j < p → ¬ best S o j
theorem pkQ_no {S : Nat → Int32} {o k : Nat} {f : Int32} (h : pkQ S o (k + 1) f) (hb : ¬ best S o k) : pkQ S o k f := by
  rcases h with ⟨h1, h2⟩ | ⟨p, h1, h2, h3, h4, h5⟩
  · refine Or.inl ⟨h1, fun j ha hc => ?_⟩
    by_cases e : j = k
    · rw [e]; exact hb
    · exact h2 j (by omega) hc
  · refine Or.inr ⟨p, by omega, h2, h3, h4, fun j ha hc => ?_⟩
    by_cases e : j = k
    · rw [e]; exact hb
    · exact h5 j (by omega) hc
theorem pkQ_yes {S : Nat → Int32} {o k : Nat} (hk : k < nv S 3) (hb : best S o k) : pkQ S o k (nI k) := Or.inr ⟨k, Nat.le_refl _, hk, rfl, hb, fun j h1 h2 => absurd h1 (by omega)⟩
section ME
variable {ev : EV} {σ : St2} {K : PO}
theorem R_takesBy' {k o : Nat} {sl fr : Int32} (hI : Inv (σ.1 1)) (ho : o < 1024) (hkn : k < nv (σ.1 1) 3) (h1 : sl = nI (slackN (σ.1 1) o)) (h2 : fr = nI (frN (σ.1 1) o)) (hk : K (some (.int (nI (takesN (σ.1 1) k o)))) σ) : Rn 1 ev mM_takesBy [.ref 0, .int (nI k), .int (nI o), .int sl, .int fr] σ K := by
  subst h1 h2
  exact R_takesBy hI ho hkn hk
theorem R_findsRow (hI : Inv (σ.1 1)) (h0 : lst (σ.1 1) 0 (nv (σ.1 1) 2) = none → ∀ σ', Sm σ σ' → K (some (.int 0)) σ') (h1 : ∀ m, lst (σ.1 1) 0 (nv (σ.1 1) 2) ≠ none → rowM (σ.1 1) (nv (σ.1 1) 2) m → m ≤ 10 → ∀ σ', Sm σ σ' → σ'.1 0 7 = nI m → (∀ i, i < m → σ'.1 6 i = nI (pick (σ.1 1) (rst (σ.1 1) (nv (σ.1 1) 2) i))) → K (some (.int 1)) σ') : Rn 1 ev mM_findsRow [.ref 0] σ K := by
  have hG := hI.2.1.1
  have hn := hI.1.2
  have hT := p2le _ hn
  have hoT := hI.2.1.2
  refine Rn_V (by decide) rc6 rfl rfl ?_
  refine PW_blk okM_findsRow 0 rfl SpM_ok ?_
  simp only [wL0, wLc, true_and, w2, lg0, lgi, lgr, lgl, w0, w36, kM0, w35, rM0, kM1, nM1, w39, w4, ls00, ls0i, ls0r, ls0l, lsi, lsr, lsl, Option.map_some, w1, w54_3, q40, q41, q42, q43, q44, Option.toList_some, Option.toList_none, List.cons_append, List.nil_append, tn0, vi0_120, tn2, vi2_120, w79, si_is, n0_1, hG.1]
  refine R_leastFrom (σ := sr σ 0 _) (b := 0) hI (by decide) hI.2.1.2 (fun r hr => ?_)
  have hr : ∀ t, t < 2 ^ nv (σ.1 1) 3 → nv (σ.1 1) 2 &&& t = nv (σ.1 1) 2 → r t = encF (lst (σ.1 1) 0 t) := hr
  simp only [wL0, wLc, true_and, w2, lg0, lgi, lgr, lgl, w0, w36, kM0, w35, rM0, kM1, nM1, w39, w4, ls00, ls0i, ls0r, ls0l, lsi, lsr, lsl, Option.map_some, w1, w54_3, q40, q41, q42, q43, q44, Option.toList_some, Option.toList_none, List.cons_append, List.nil_append, tn0, vi0_120, tn2, vi2_120, w79, n0_1]
  have hSm0 : Sm σ (sr (sr σ 0 (upd (σ.1 0) 7 0)) 5 r) := Sm_sr (by decide) (by decide) (Sm_f (by decide) (by decide) Sm_r)
  generalize ho : nv (σ.1 1) 2 = o at *
  cases el : lst (σ.1 1) 0 o with
  | none =>
    refine b3Y rfl ?_
    refine PW_blk okM_findsRow 1 rfl SpM_ok ?_
    simp only [wL0, wLc, true_and, w0, w85]
    exact ⟨Or.inl trivial, h0 el _ hSm0⟩
  | some w =>
  have hw := lst_lt hI (by omega) el
  have hne : lst (σ.1 1) 0 o ≠ none := by rw [el]; exact fun z => by cases z
  refine b3N (by intro e; have e2 := encF_lt (v := w) (by omega); rw [show nI w = 99999999 from e] at e2; exact absurd e2 (by decide)) ?_
  have key := lp_up (n := 11) (P := fun i => ∀ σ', Sm σ σ' → (∀ t, t < 2 ^ nv (σ.1 1) 3 → o &&& t = o → σ'.1 5 t = encF (lst (σ.1 1) 0 t)) → σ'.1 0 7 = nI i → (∀ j, j < i → σ'.1 6 j = nI (pick (σ.1 1) (rst (σ.1 1) o j))) → (∀ j, j < i → ¬ outP (σ.1 1) (rst (σ.1 1) o j)) → PW 1 ev mM_findsRow 25 [.ref 0, .int (nI (rst (σ.1 1) o i))] [] σ' K) ?_ ?_ 0 (by decide)
  · refine key _ hSm0 (fun t h2 h3 => ?_) ?_ (fun j hj => absurd hj (Nat.not_lt_zero _)) (fun j hj => absurd hj (Nat.not_lt_zero _))
    · rw [sr1]; exact hr t h2 h3
    · rw [n5_0, sr1, updS]; rfl
  · intro σ' _ _ _ _ hno
    have := (rst_ok hI hoT hne 11 hno).2.2.1
    have := pcn_le (rst (σ.1 1) o 11)
    omega
  · intro i hi ih σ' hSm h5 h7 h6 hno
    obtain ⟨hl, hlt, hpc, hsub⟩ := rst_ok hI hoT hne i hno
    have enext : rst (σ.1 1) o (i + 1) = rst (σ.1 1) o i ||| 2 ^ pick (σ.1 1) (rst (σ.1 1) o i) := rfl
    have e1 : σ'.1 1 = σ.1 1 := hSm.1 1 rfl
    have hI' : Inv (σ'.1 1) := by rw [e1]; exact hI
    have hnoi : ∀ q, outP (σ.1 1) (rst (σ.1 1) o i) → q = i → rowM (σ.1 1) o q := fun q hq e => by subst e; exact ⟨hq, hno⟩
    have hnos : ¬ outP (σ.1 1) (rst (σ.1 1) o i) → ∀ j, j < i + 1 → ¬ outP (σ.1 1) (rst (σ.1 1) o j) := fun hq j hj => by
      by_cases e : j = i
      · subst e; exact hq
      · exact hno j (by omega)
    have h6s : ∀ r6 : Nat → Int32, (∀ j, j < i → r6 j = σ'.1 6 j) → r6 i = nI (pick (σ.1 1) (rst (σ.1 1) o i)) → ∀ j, j < i + 1 → r6 j = nI (pick (σ.1 1) (rst (σ.1 1) o j)) := fun r6 ha hb j hj => by
      by_cases e : j = i
      · subst e; exact hb
      · rw [ha j (by omega)]; exact h6 j (by omega)
    rw [enext] at ih
    generalize hs : rst (σ.1 1) o i = s at *
    have hs10 : s < 1024 := by omega
    have hv : vp_in (nI s) 1024 := vp_in_nI hs10 (by decide)
    have cl : (nI s).toNatClampNeg = s := nI_clamp (by omega)
    have h5s := h5 s hlt hsub
    refine PW_blk okM_findsRow 2 rfl SpM_ok ?_
    simp only [wL0, wLc, true_and, w2, lg0, lgi, lgr, lgl, w35, kM0, rM5, kM5, nM5, w1, w39, w77, cl, eq_true hv, h5s]
    by_cases hout : outP (σ.1 1) s
    · have e0 : lst (σ.1 1) 0 s = some 0 := by rw [lst_eq hn hs10, if_pos (show σ.1 1 6 &&& (nI s ^^^ -1) = 0 from hout)]
      rw [e0]
      refine b3N (show ¬ (0 : Int32) < encF (some 0) by decide) ?_
      refine PW_blk okM_findsRow 15 rfl SpM_ok ?_
      simp only [wL0, wLc, true_and, w0, w85]
      exact ⟨Or.inr trivial, h1 i hne (hnoi i hout rfl) (by have := pcn_le s; omega) σ' hSm h7 h6⟩
    have hpk := pick_ok hI hs10 hl hout
    have hpk2 := hpk
    obtain ⟨hkp, ⟨hmp, v, hv1, hv2⟩, -⟩ := hpk2
    have htk := takes_le hI (o := s) hkp
    have hvle := lst_lt hI hs10 hv2
    rw [hv2] at h5s ⊢
    refine b3Y (show (0 : Int32) < nI (takesN (σ.1 1) (pick (σ.1 1) s) s + v) from nI_lt (a := 0) (by omega) (by omega)) ?_
    refine PW_blk okM_findsRow 3 rfl SpM_ok ?_
    simp only [wL0, wLc, true_and, w2, lg0, lgi, lgr, lgl, w1, w54_2, q40, q41, q42, q43, q44, Option.toList_some, Option.toList_none, List.cons_append, List.nil_append, w4, ls00, ls0i, ls0r, ls0l, lsi, lsr, lsl, Option.map_some, w0, w35, kM0, rM0, kM1, nM1, w39, w12, tn1, vi1_120, tn3, vi3_120, w71]
    refine R_slackBy hI' hs10 ?_
    simp only [wL0, wLc, true_and, w2, lg0, lgi, lgr, lgl, w1, w54_2, q40, q41, q42, q43, q44, Option.toList_some, Option.toList_none, List.cons_append, List.nil_append, w4, ls00, ls0i, ls0r, ls0l, lsi, lsr, lsl, Option.map_some, w0, w35, kM0, rM0, kM1, nM1, w39, w12, tn1, vi1_120, tn3, vi3_120, w71]
    refine R_freeBy hI' hs10 ?_
    simp only [wL0, wLc, true_and, w2, lg0, lgi, lgr, lgl, w1, w54_2, q40, q41, q42, q43, q44, Option.toList_some, Option.toList_none, List.cons_append, List.nil_append, w4, ls00, ls0i, ls0r, ls0l, lsi, lsr, lsl, Option.map_some, w0, w35, kM0, rM0, kM1, nM1, w39, w12, tn1, vi1_120, tn3, vi3_120, w71, e1, hI.1.1]
    have inner := lp_dn (a := 0) (P := fun k => k ≤ nv (σ.1 1) 3 → ∀ f, pkQ (σ.1 1) s k f → PW 1 ev mM_findsRow 59 [.ref 0, .int (nI s), .int (nI (slackN (σ.1 1) s)), .int (nI (frN (σ.1 1) s)), .int f, .int (nI k - 1)] [] σ' K) ?_ ?_ (nv (σ.1 1) 3) (Nat.zero_le _)
    · exact inner (Nat.le_refl _) (-1) (Or.inl ⟨rfl, fun j a b => absurd a (by omega)⟩)
    · intro _ f hq
      refine PW_blk okM_findsRow 4 rfl SpM_ok ?_
      simp only [wL0, wLc, true_and, w1, lg0, lgi, lgr, lgl, w74]
      refine b2Y (by decide) ?_
      have hf : f = nI (pick (σ.1 1) s) := by
        rcases hq with ⟨-, h2⟩ | ⟨p, -, h2, h3, h4, h5⟩
        · exact absurd hpk.2.1 (h2 _ (Nat.zero_le _) hkp)
        · rw [pick_eq ⟨h2, h4, fun j hj => h5 j (Nat.zero_le _) hj⟩]; exact h3
      subst hf
      have hb := why_bit hmp
      have hpo := pcn_or (by omega) hb
      have hple := pcn_le (s ||| 2 ^ pick (σ.1 1) s)
      have hi10 : i < 10 := by omega
      refine PW_blk okM_findsRow 14 rfl SpM_ok ?_
      simp only [wL0, wLc, true_and, w2, lg0, lgi, lgr, lgl, w35, kM0, rM6, kM6, nM6, w33, w1, w40, w8i, w8r, w0, w11, w36, w19, w17, w4, ls00, ls0i, ls0r, ls0l, lsi, lsr, lsl, Option.map_some, tn1, w70, si_is, n6_0, h7, eq_true (vp_in_nI hi10 (by decide)), nI_clamp (show i < 2 ^ 31 by omega), nI_sh1 (pick (σ.1 1) s) (by omega), fa_or]
      refine PW_loc 2 ?_
      refine ih _ ?_ ?_ ?_ ?_ (hnos hout)
      · exact Sm_f (by decide) (by decide) (Sm_sr (by decide) (by decide) hSm)
      · intro t h2 h3
        rw [n0_5, n6_5]
        exact h5 t h2 h3
      · rw [sr1, updS, show (1 : Int32) = nI 1 from rfl, nI_add]
      · rw [n0_6, sr1]
        exact h6s _ (fun j hj => updN (by omega)) updS
    · intro k _ ih2 hkn f hq
      have hk10 : k < 10 := by omega
      rw [m1_s]
      refine PW_blk okM_findsRow 4 rfl SpM_ok ?_
      simp only [wL0, wLc, true_and, w1, lg0, lgi, lgr, lgl, w74]
      refine b2N (nI_nlt (a := k) (b := 0) (Nat.zero_le _) (by omega)) ?_
      refine PW_blk okM_findsRow 5 rfl SpM_ok ?_
      simp only [wL0, wLc, true_and, w2, lg0, lgi, lgr, lgl, w1, w54_5, q40, q41, q42, q43, q44, Option.toList_some, Option.toList_none, List.cons_append, List.nil_append, w73]
      refine R_whyBy (o := s) (fr := frN (σ.1 1) s) hI' hs10 (by have := frN_lt (σ.1 1) s; omega) (by rw [e1]; omega) ?_
      simp only [wL0, wLc, true_and, w2, lg0, lgi, lgr, lgl, w1, w54_5, q40, q41, q42, q43, q44, Option.toList_some, Option.toList_none, List.cons_append, List.nil_append, w73, e1]
      have cont : ∀ old x f', pkQ (σ.1 1) s k f' → PW 1 ev mM_findsRow 141 [.ref 0, .int (nI s), .int (nI (slackN (σ.1 1) s)), .int (nI (frN (σ.1 1) s)), .int old, .int (nI k), .int x] [.int f'] σ' K := by
        intro old x f' hq'
        refine PW_blk okM_findsRow 13 rfl SpM_ok ?_
        simp only [wL0, wLc, true_and, w4, ls00, ls0i, ls0r, ls0l, lsi, lsr, lsl, Option.map_some, w7, lg0, lgi, lgr, lgl, w70, m1_add]
        refine PW_loc 6 ?_
        exact ih2 (by omega) f' hq'
      have no : pkQ (σ.1 1) s k f → PW 1 ev mM_findsRow 96 [.ref 0, .int (nI s), .int (nI (slackN (σ.1 1) s)), .int (nI (frN (σ.1 1) s)), .int f, .int (nI k)] [] σ' K := by
        intro hq'
        refine PW_blk okM_findsRow 8 rfl SpM_ok ?_
        simp only [wL0, wLc, true_and, w0, w71]
        refine PW_blk okM_findsRow 9 rfl SpM_ok ?_
        simp only [wL0, wLc, true_and, w4, ls00, ls0i, ls0r, ls0l, lsi, lsr, lsl, Option.map_some, w1, lg0, lgi, lgr, lgl, w72]
        refine b2Y trivial ?_
        refine PW_blk okM_findsRow 12 rfl SpM_ok ?_
        simp only [wL0, wLc, true_and, w1, lg0, lgi, lgr, lgl, w71]
        exact cont _ _ _ hq'
      by_cases hw : whyF (σ.1 1) k s (nI (slackN (σ.1 1) s)) (nI (hdN (σ.1 1) s)) = 0
      rotate_left
      · refine b3N hw ?_
        exact no (pkQ_no hq (fun hb => hw hb.1))
      refine b3Y hw ?_
      have hbit := why_bit hw
      have hgt := or_gt hbit
      have hlt2 : s ||| 2 ^ k < 2 ^ nv (σ.1 1) 3 := or_lt (by omega) (by omega)
      have hsub2 : o &&& (s ||| 2 ^ k) = o := by
        rw [Nat.and_or_distrib_left, hsub]
        apply Nat.eq_of_testBit_eq
        intro j
        rw [Nat.testBit_or, Nat.testBit_and]
        cases o.testBit j <;> simp
      have hv2' : vp_in (nI (s ||| 2 ^ k)) 1024 := vp_in_nI (by omega) (by decide)
      have cl2 : (nI (s ||| 2 ^ k)).toNatClampNeg = s ||| 2 ^ k := nI_clamp (by omega)
      have hq5 := h5 _ hlt2 hsub2
      refine PW_blk okM_findsRow 6 rfl SpM_ok ?_
      simp only [wL0, wLc, true_and, w2, lg0, lgi, lgr, lgl, w35, kM0, rM5, kM5, nM5, w1, w0, w19, w17, w39, tn1, w81, nI_sh1 k (by omega), fa_or, eq_true hv2', cl2, hq5]
      cases e : lst (σ.1 1) 0 (s ||| 2 ^ k) with
      | none =>
        refine b3N (show ¬ encF none < 99999999 by decide) ?_
        exact no (pkQ_no hq (fun hb => by obtain ⟨-, x, hx, -⟩ := hb; rw [e] at hx; cases hx))
      | some y =>
        have hyle := lst_lt hI (by omega) e
        have ht2 := takes_le hI (k := k) (o := s) (by omega)
        refine b3Y (encF_lt (v := y) (by omega)) ?_
        refine PW_blk okM_findsRow 7 rfl SpM_ok ?_
        simp only [wL0, wLc, true_and, w0, w70]
        refine PW_blk okM_findsRow 9 rfl SpM_ok ?_
        simp only [wL0, wLc, true_and, w4, ls00, ls0i, ls0r, ls0l, lsi, lsr, lsl, Option.map_some, w1, lg0, lgi, lgr, lgl, w72]
        refine b2N (by decide) ?_
        refine PW_blk okM_findsRow 10 rfl SpM_ok ?_
        simp only [wL0, wLc, true_and, w2, lg0, lgi, lgr, lgl, w1, w54_5, q40, q41, q42, q43, q44, Option.toList_some, Option.toList_none, List.cons_append, List.nil_append, w35, kM0, rM5, kM5, nM5, w0, w19, w17, w39, w11, tn1, w79]
        refine R_takesBy' hI' hs10 (by rw [e1]; omega) (by rw [e1]) (by rw [e1]) ?_
        rw [e] at hq5
        simp only [wL0, wLc, true_and, w2, lg0, lgi, lgr, lgl, w1, w54_5, q40, q41, q42, q43, q44, Option.toList_some, Option.toList_none, List.cons_append, List.nil_append, w35, kM0, rM5, kM5, nM5, w0, w19, w17, w39, w11, tn1, w79, e1, nI_sh1 k (by omega), fa_or, eq_true hv2', cl2, hq5, cl, eq_true hv, h5s]
        rw [show encF (some y) = nI y from rfl, show encF (some (takesN (σ.1 1) (pick (σ.1 1) s) s + v)) = nI (takesN (σ.1 1) (pick (σ.1 1) s) s + v) from rfl, nI_add, nI_eq_iff (by omega) (by omega)]
        by_cases hc : takesN (σ.1 1) k s + y = takesN (σ.1 1) (pick (σ.1 1) s) s + v
        · refine b3Y hc ?_
          refine PW_blk okM_findsRow 11 rfl SpM_ok ?_
          simp only [wL0, wLc, true_and, w1, lg0, lgi, lgr, lgl, w70]
          refine cont _ _ _ (pkQ_yes (by omega) ⟨hw, y, e, ?_⟩)
          rw [hc]; exact hv2
        · refine b3N hc ?_
          refine PW_blk okM_findsRow 12 rfl SpM_ok ?_
          simp only [wL0, wLc, true_and, w1, lg0, lgi, lgr, lgl, w71]
          refine cont _ _ _ (pkQ_no hq (fun hb => ?_))
          obtain ⟨-, x, hx, hx2⟩ := hb
          rw [e] at hx
          cases hx
          rw [hv2] at hx2
          exact hc (Option.some.inj hx2).symm
end ME
