/-! the class's ways: what can come off, states, rows, odds -/
theorem orU_bit {f : Nat → Nat} : ∀ n k, (orU f n).testBit k = true ↔ ∃ t, t < n ∧ (f t).testBit k = true
  | 0, k => by simp [orU]
  | n + 1, k => by
    have ih := orU_bit (f := f) n k
    show (orU f n ||| f n).testBit k = true ↔ _
    rw [Nat.testBit_or, Bool.or_eq_true, ih]
    constructor
    · intro z
      rcases z with ⟨t, a, b⟩ | z
      · exact ⟨t, by omega, b⟩
      · exact ⟨n, by omega, z⟩
    · intro ⟨t, a, b⟩
      by_cases e : t = n
      · subst e; exact Or.inr b
      · exact Or.inl ⟨t, by omega, b⟩
theorem rch_ind {S : Nat → Int32} {fr : Nat} (hn : nv S 3 ≤ 10) {P : Nat → Prop} (h0 : P fr) (hs : ∀ p k, (mayN S p).testBit k = true → rch S fr p → P p → P (p ||| 2 ^ k)) {t : Nat} (h : rch S fr t) : P t :=
  fw_ind (okW_p hn) h0 (fun p k a b c => hs p k (okW0.mp a) b c) t t (Nat.le_refl _) h
theorem cif_bit {p : Prop} {a k : Nat} : (cif p a 0).testBit k = true ↔ p ∧ a.testBit k = true := by
  by_cases h : p
  · rw [cif_y h]; exact ⟨fun z => ⟨h, z⟩, fun z => z.2⟩
  · rw [cif_n h, Nat.zero_testBit]; exact ⟨fun z => (by cases z), fun z => absurd z.1 h⟩
theorem orU_lt {f : Nat → Nat} {n m : Nat} (h : ∀ t, t < n → f t < 2 ^ m) : orU f n < 2 ^ m := by
  induction n with
  | zero => exact Nat.two_pow_pos _
  | succ n ih => exact Nat.or_lt_two_pow (ih (fun t ht => h t (by omega))) (h n (by omega))
theorem ever_eq {S : Nat → Int32} (hI : Inv S) : orU (fun t => cif (rch S (nv S 2) t) (mayN S t) 0) 1024 = dif (orU (fun t => cif (cw S 0 (nv S 2) t ≠ 0) t 0) 1024) (nv S 2) := by
  have hn := hI.1.2
  have hp2 := p2le _ hn
  have hlt : orU (fun t => cif (cw S 0 (nv S 2) t ≠ 0) t 0) 1024 < 2 ^ 10 := orU_lt (fun t ht => by
    by_cases c : cw S 0 (nv S 2) t ≠ 0
    · rw [cif_y c]; exact ht
    · rw [cif_n c]; exact Nat.two_pow_pos _)
  apply Nat.eq_of_testBit_eq
  intro k
  rw [Bool.eq_iff_iff, dif_bit k (by omega), Bool.and_eq_true, orU_bit, orU_bit]
  constructor
  · intro ⟨t, ht, hb⟩
    rw [cif_bit] at hb
    obtain ⟨hr, hb⟩ := hb
    obtain ⟨hk, hm⟩ := mayN_bit.mp hb
    have hr2 := rch_to hn hb hr
    have hl := rch_lt hn hI.2.1.2 hr2
    refine ⟨⟨t ||| 2 ^ k, by omega, cif_bit.mpr ⟨hr2, by rw [bit_or]; simp⟩⟩, ?_⟩
    have hsub := rch_sub hn hr
    have hf := why_bit hm
    have h2 := congrArg (fun x => Nat.testBit x k) hsub
    simp only [Nat.testBit_and, hf, Bool.and_false] at h2
    rw [← h2]
    rfl
  · intro ⟨⟨t, ht, hb⟩, ho⟩
    rw [cif_bit] at hb
    obtain ⟨hr, hb⟩ := hb
    have ho2 : (nv S 2).testBit k = false := by simpa using ho
    have key : t.testBit k = true → ∃ p, rch S (nv S 2) p ∧ (mayN S p).testBit k = true := by
      refine rch_ind hn (P := fun t => t.testBit k = true → ∃ p, rch S (nv S 2) p ∧ (mayN S p).testBit k = true) (fun z => by rw [ho2] at z; cases z) (fun p j hj hp ih z => ?_) hr
      rw [bit_or, Bool.or_eq_true] at z
      rcases z with z | z
      · exact ih z
      · have e : k = j := of_decide_eq_true z
        subst e
        exact ⟨p, hp, hj⟩
    obtain ⟨p, hp, hj⟩ := key hb
    have hl := rch_lt hn hI.2.1.2 hp
    exact ⟨p, by omega, cif_bit.mpr ⟨hp, hj⟩⟩
/-- is there a way out from there? -/
def wayP (S : Nat → Int32) (fr : Nat) : Prop := ∃ t, t < 1024 ∧ rch S fr t ∧ outP S t
theorem way_lst {S : Nat → Int32} (hI : Inv S) {b fr : Nat} (hf : fr < 2 ^ nv S 3) : wayP S fr ↔ lst S b fr ≠ none := by
  have hn := hI.1.2
  have hp2 := p2le _ hn
  constructor
  · intro ⟨t, ht, hr, ho⟩
    have key : lst S b t ≠ none → lst S b fr ≠ none := by
      refine rch_ind hn (P := fun t => lst S b t ≠ none → lst S b fr ≠ none) (fun z => z) (fun p k hk hp ih z => ?_) hr
      have hpl := rch_lt hn hf hp
      refine ih ?_
      by_cases c : outP S p
      · rw [lst_out hn (by omega) c]; exact fun y => by cases y
      · obtain ⟨v, hv⟩ : ∃ v, lst S b (p ||| 2 ^ k) = some v := by
          cases e : lst S b (p ||| 2 ^ k) with
          | none => exact absurd e z
          | some v => exact ⟨v, rfl⟩
        obtain ⟨w, hw, -⟩ := lsU_le (S := S) (b := b) (o := p) (rest := lst S b) (nv S 3) k v (mayN_bit.mp hk).1 (mayN_bit.mp hk).2 hv
        rw [lst_in hn (by omega) c, hw]
        exact fun y => by cases y
    exact key (by rw [lst_out hn ht ho]; exact fun y => by cases y)
  · intro h
    have key : ∀ f s, 1024 - s ≤ f → s < 1024 → rch S fr s → lst S b s ≠ none → wayP S fr := by
      intro f
      induction f with
      | zero => intro s h1 h2; omega
      | succ f ih =>
        intro s h1 h2 hr hl
        by_cases c : outP S s
        · exact ⟨s, h2, hr, c⟩
        obtain ⟨w, hw⟩ : ∃ w, lst S b s = some w := by
          cases e : lst S b s with
          | none => exact absurd e hl
          | some w => exact ⟨w, rfl⟩
        rw [lst_in hn h2 c] at hw
        obtain ⟨k, hk, hm, v, hv, -⟩ := lsU_some _ _ hw
        have hb := why_bit hm
        have hg := or_gt hb
        have hl2 : s ||| 2 ^ k < 2 ^ 10 := or_lt h2 (by omega)
        exact ih (s ||| 2 ^ k) (by omega) hl2 (rch_to hn (mayN_bit.mpr ⟨hk, hm⟩) hr) (by rw [hv]; exact fun y => by cases y)
    exact key 1024 fr (by omega) (by omega) (rch_fr hn) h
theorem fwK_no {ok : Nat → Nat → Prop} {W : Nat → Nat} {s m : Nat} (h : ∀ k, ¬ ok s k) : fwK ok W s m = W := by
  funext t
  unfold fwK
  rw [cif_n (fun ⟨k, _, _, z⟩ => h k z)]
  rfl
theorem cw1_r {S : Nat → Int32} {fr t : Nat} (hn : nv S 3 ≤ 10) (h : cw S 1 fr t ≠ 0) : rch S fr t :=
  fw_ind (okW_p hn) (P := fun t => rch S fr t) (rch_fr hn) (fun p k a _ c => rch_to hn (mayN_bit.mpr ⟨a.1, a.2.1⟩) c) t t (Nat.le_refl _) h
section WW
variable {ev : EV} {σ : St2} {K : PO} {S : Nat → Int32}
theorem X_everOff (hX : XC σ 1 S) (hI : Inv S) (hk : ∀ σ', Wf σ σ' → K (some (.int (nI (dif (orU (fun t => cif (cw S 0 (nv S 2) t ≠ 0) t 0) 1024) (nv S 2))))) σ') : Rn 0 ev mW_everOff [.ref 43] σ K := by
  have hc := CH1
  rw [← ever_eq hI] at hk
  refine Rn_V (by decide) rc4 rfl rfl ?_
  refine PW_blk okW_everOff 0 rfl SpX_ok ?_
  simp only [wL0, wLc, true_and, w2, lg0, lgi, lgr, lgl, w35, kX43, rX43_0, w33, CH_k hc, w54_2, q40, q41, q42, q43, q44, Option.toList_some, Option.toList_none, List.cons_append, List.nil_append, w0, w4, ls00, ls0i, ls0r, ls0l, lsi, lsr, lsl, Option.map_some, w71, x4 hX hI]
  refine X_explore hX hI hI.2.1.2 (fun σ' hW _ _ hT => ?_)
  simp only [wL0, wLc, true_and, w2, lg0, lgi, lgr, lgl, w35, kX43, rX43_0, w33, CH_k hc, w54_2, q40, q41, q42, q43, q44, Option.toList_some, Option.toList_none, List.cons_append, List.nil_append, w0, w4, ls00, ls0i, ls0r, ls0l, lsi, lsr, lsl, Option.map_some, w71]
  have key := lp_up (n := 1024) (P := fun i => PW 0 ev mW_everOff 15 [.ref 43, .int (nI (orU (fun t => cif (rch S (nv S 2) t) (mayN S t) 0) i)), .int (nI i)] [] σ' K) ?_ ?_ 0 (by decide)
  · exact key
  · refine PW_blk okW_everOff 1 rfl SpX_ok ?_
    simp only [wL0, wLc, true_and, w1, lg0, lgi, lgr, lgl, w0, w81]
    refine b3N (by decide) ?_
    refine PW_blk okW_everOff 5 rfl SpX_ok ?_
    simp only [wL0, wLc, true_and, w1, lg0, lgi, lgr, lgl, w84]
    exact hk σ' hW
  · intro i hi ih
    have e : orU (fun t => cif (rch S (nv S 2) t) (mayN S t) 0) (i + 1) = orU (fun t => cif (rch S (nv S 2) t) (mayN S t) 0) i ||| cif (rch S (nv S 2) i) (mayN S i) 0 := rfl
    rw [e] at ih
    obtain ⟨t1, t2⟩ := hT i hi
    refine PW_blk okW_everOff 1 rfl SpX_ok ?_
    simp only [wL0, wLc, true_and, w1, lg0, lgi, lgr, lgl, w0, w81]
    refine b3Y (nI_lt hi (by decide)) ?_
    refine PW_blk okW_everOff 2 rfl SpX_ok ?_
    simp only [wL0, wLc, true_and, w2, lg0, lgi, lgr, lgl, w35, kX43, rX43_1, kX44, nX44, w1, w39, w0, w78, v1024 hi, c1024 hi]
    by_cases c : rch S (nv S 2) i
    · rw [cif_y c] at ih
      refine b2N (by rw [(t1 c).1]; exact m1_ne (by have := mayN_lt S i; have := p2le _ hI.1.2; omega)) ?_
      refine PW_blk okW_everOff 3 rfl SpX_ok ?_
      simp only [wL0, wLc, true_and, w1, lg0, lgi, lgr, lgl, w2, w35, kX43, rX43_1, kX44, nX44, w39, w17, w4, ls00, ls0i, ls0r, ls0l, lsi, lsr, lsl, Option.map_some, w71, v1024 hi, c1024 hi, (t1 c).1, fa_or]
      refine PW_blk okW_everOff 4 rfl SpX_ok ?_
      simp only [wL0, wLc, true_and, w7, lg0, lgi, lgr, lgl, ls00, ls0i, ls0r, ls0l, lsi, lsr, lsl, Option.map_some, w70]
      rw [show (1 : Int32) = nI 1 from rfl, nI_add]
      exact ih
    · rw [cif_n c, Nat.or_zero] at ih
      refine b2Y (t2 c) ?_
      refine PW_blk okW_everOff 4 rfl SpX_ok ?_
      simp only [wL0, wLc, true_and, w7, lg0, lgi, lgr, lgl, ls00, ls0i, ls0r, ls0l, lsi, lsr, lsl, Option.map_some, w70]
      rw [show (1 : Int32) = nI 1 from rfl, nI_add]
      exact ih
theorem X_reachedStates (hX : XC σ 1 S) (hI : Inv S) (hk : ∀ σ', Wf σ σ' → K (some (.int (nI (suU (fun t => cif (cw S 0 (nv S 2) t ≠ 0) 1 0) 1024)))) σ') : Rn 0 ev mW_reachedStates [.ref 43] σ K := by
  have hc := CH1
  refine Rn_V (by decide) rc4 rfl rfl ?_
  refine PW_blk okW_reachedStates 0 rfl SpX_ok ?_
  simp only [wL0, wLc, true_and, w2, lg0, lgi, lgr, lgl, w35, kX43, rX43_0, w33, CH_k hc, w54_2, q40, q41, q42, q43, q44, Option.toList_some, Option.toList_none, List.cons_append, List.nil_append, w0, w4, ls00, ls0i, ls0r, ls0l, lsi, lsr, lsl, Option.map_some, w71, x4 hX hI]
  refine X_explore hX hI hI.2.1.2 (fun σ' hW _ _ hT => ?_)
  simp only [wL0, wLc, true_and, w2, lg0, lgi, lgr, lgl, w35, kX43, rX43_0, w33, CH_k hc, w54_2, q40, q41, q42, q43, q44, Option.toList_some, Option.toList_none, List.cons_append, List.nil_append, w0, w4, ls00, ls0i, ls0r, ls0l, lsi, lsr, lsl, Option.map_some, w71]
  have key := lp_up (n := 1024) (P := fun i => PW 0 ev mW_reachedStates 15 [.ref 43, .int (nI (suU (fun t => cif (cw S 0 (nv S 2) t ≠ 0) 1 0) i)), .int (nI i)] [] σ' K) ?_ ?_ 0 (by decide)
  · exact key
  · refine PW_blk okW_reachedStates 1 rfl SpX_ok ?_
    simp only [wL0, wLc, true_and, w1, lg0, lgi, lgr, lgl, w0, w81]
    refine b3N (by decide) ?_
    refine PW_blk okW_reachedStates 5 rfl SpX_ok ?_
    simp only [wL0, wLc, true_and, w1, lg0, lgi, lgr, lgl, w84]
    exact hk σ' hW
  · intro i hi ih
    have e : suU (fun t => cif (cw S 0 (nv S 2) t ≠ 0) 1 0) (i + 1) = suU (fun t => cif (cw S 0 (nv S 2) t ≠ 0) 1 0) i + cif (cw S 0 (nv S 2) i ≠ 0) 1 0 := rfl
    rw [e] at ih
    obtain ⟨t1, t2⟩ := hT i hi
    refine PW_blk okW_reachedStates 1 rfl SpX_ok ?_
    simp only [wL0, wLc, true_and, w1, lg0, lgi, lgr, lgl, w0, w81]
    refine b3Y (nI_lt hi (by decide)) ?_
    refine PW_blk okW_reachedStates 2 rfl SpX_ok ?_
    simp only [wL0, wLc, true_and, w2, lg0, lgi, lgr, lgl, w35, kX43, rX43_1, kX44, nX44, w1, w39, w0, w78, v1024 hi, c1024 hi]
    by_cases c : cw S 0 (nv S 2) i ≠ 0
    · rw [cif_y c] at ih
      refine b2N (by rw [(t1 c).1]; exact m1_ne (by have := mayN_lt S i; have := p2le _ hI.1.2; omega)) ?_
      refine PW_blk okW_reachedStates 3 rfl SpX_ok ?_
      simp only [wL0, wLc, true_and, w7, lg0, lgi, lgr, lgl, ls00, ls0i, ls0r, ls0l, lsi, lsr, lsl, Option.map_some, w71]
      refine PW_blk okW_reachedStates 4 rfl SpX_ok ?_
      simp only [wL0, wLc, true_and, w7, lg0, lgi, lgr, lgl, ls00, ls0i, ls0r, ls0l, lsi, lsr, lsl, Option.map_some, w70]
      rw [show (1 : Int32) = nI 1 from rfl, nI_add, nI_add]
      exact ih
    · rw [cif_n c] at ih
      refine b2Y (t2 c) ?_
      refine PW_blk okW_reachedStates 4 rfl SpX_ok ?_
      simp only [wL0, wLc, true_and, w7, lg0, lgi, lgr, lgl, ls00, ls0i, ls0r, ls0l, lsi, lsr, lsl, Option.map_some, w70]
      rw [show (1 : Int32) = nI 1 from rfl, nI_add]
      exact ih
theorem X_hasWayOut {fr : Nat} (hX : XC σ 1 S) (hI : Inv S) (hf : fr < 2 ^ nv S 3) (h0 : ¬ wayP S fr → ∀ σ', Wf σ σ' → σ'.1 50 = σ.1 50 → K (some (.int 0)) σ') (h1 : wayP S fr → ∀ σ', Wf σ σ' → σ'.1 50 = σ.1 50 → K (some (.int 1)) σ') : Rn 0 ev mW_hasWayOut [.ref 43, .int (nI fr)] σ K := by
  have hc := CH1
  refine Rn_V (by decide) rc4 rfl rfl ?_
  refine PW_blk okW_hasWayOut 0 rfl SpX_ok ?_
  simp only [wL0, wLc, true_and, w2, lg0, lgi, lgr, lgl, w1, w54_2, q40, q41, q42, q43, q44, Option.toList_some, Option.toList_none, List.cons_append, List.nil_append, w0, w4, ls00, ls0i, ls0r, ls0l, lsi, lsr, lsl, Option.map_some, w71]
  refine X_explore hX hI hf (fun σ' hW _ w50 hT => ?_)
  have hX' := Wf_X hW hX
  simp only [wL0, wLc, true_and, w2, lg0, lgi, lgr, lgl, w1, w54_2, q40, q41, q42, q43, q44, Option.toList_some, Option.toList_none, List.cons_append, List.nil_append, w0, w4, ls00, ls0i, ls0r, ls0l, lsi, lsr, lsl, Option.map_some, w71]
  have key := lp_up (n := 1024) (P := fun i => (∀ t, t < i → ¬ (rch S fr t ∧ outP S t)) → PW 0 ev mW_hasWayOut 7 [.ref 43, .int (nI fr), .int (nI i)] [] σ' K) ?_ ?_ 0 (by decide) (fun t ht => absurd ht (Nat.not_lt_zero t))
  · exact key
  · intro hno
    refine PW_blk okW_hasWayOut 1 rfl SpX_ok ?_
    simp only [wL0, wLc, true_and, w1, lg0, lgi, lgr, lgl, w0, w81]
    refine b3N (by decide) ?_
    refine PW_blk okW_hasWayOut 6 rfl SpX_ok ?_
    simp only [wL0, wLc, true_and, w0, w85]
    exact ⟨Or.inl trivial, h0 (fun ⟨t, a, b⟩ => hno t a b) σ' hW w50⟩
  · intro i hi ih hno
    obtain ⟨t1, t2⟩ := hT i hi
    have next : ¬ (rch S fr i ∧ outP S i) → PW 0 ev mW_hasWayOut 37 [.ref 43, .int (nI fr), .int (nI i)] [] σ' K := by
      intro z
      refine PW_blk okW_hasWayOut 5 rfl SpX_ok ?_
      simp only [wL0, wLc, true_and, w7, lg0, lgi, lgr, lgl, ls00, ls0i, ls0r, ls0l, lsi, lsr, lsl, Option.map_some, w70]
      rw [show (1 : Int32) = nI 1 from rfl, nI_add]
      refine ih (fun t ht => ?_)
      by_cases e : t = i
      · subst e; exact z
      · exact hno t (by omega)
    refine PW_blk okW_hasWayOut 1 rfl SpX_ok ?_
    simp only [wL0, wLc, true_and, w1, lg0, lgi, lgr, lgl, w0, w81]
    refine b3Y (nI_lt hi (by decide)) ?_
    refine PW_blk okW_hasWayOut 2 rfl SpX_ok ?_
    simp only [wL0, wLc, true_and, w2, lg0, lgi, lgr, lgl, w35, kX43, rX43_1, kX44, nX44, w1, w39, w0, w78, v1024 hi, c1024 hi]
    by_cases c : rch S fr i
    rotate_left
    · exact b2Y (t2 c) (next (fun z => c z.1))
    refine b2N (by rw [(t1 c).1]; exact m1_ne (by have := mayN_lt S i; have := p2le _ hI.1.2; omega)) ?_
    refine PW_blk okW_hasWayOut 3 rfl SpX_ok ?_
    simp only [wL0, wLc, true_and, w2, lg0, lgi, lgr, lgl, w35, kX43, rX43_0, w1, w54_2, q40, q41, q42, q43, q44, Option.toList_some, Option.toList_none, List.cons_append, List.nil_append, xp_C_isOutAt, CH_e hc, w72, xr2 hX']
    by_cases c2 : outP S i
    · refine bY (if_pos c2) ?_
      refine PW_blk okW_hasWayOut 4 rfl SpX_ok ?_
      simp only [wL0, wLc, true_and, w0, w85]
      exact ⟨Or.inr trivial, h1 ⟨i, hi, c, c2⟩ σ' hW w50⟩
    · exact bN (if_neg c2) (next (fun z => c2 z.2))
theorem X_handOn {ok : Nat → Nat → Prop} {W : Nat → Nat} {s M : Nat} (ho : okp ok) (hs : s < 1024) (hM : M < 1024) (hb : ∀ k, k < 10 → (M.testBit k = true ↔ ok s k)) (hW : ∀ t, t < 1024 → σ.1 47 t = nI (W t)) (hk : ∀ r, (∀ t, t < 1024 → r t = nI (fwK ok W s 10 t)) → K none (sr σ 47 r)) : Rn 0 ev mW_handOn [.ref 43, .int (nI s), .int (nI M)] σ K := by
  refine Rn_V (by decide) rc4 rfl rfl ?_
  refine PW_blk okW_handOn 0 rfl SpX_ok ?_
  simp only [wL0, wLc, true_and, w0, w4, ls00, ls0i, ls0r, ls0l, lsi, lsr, lsl, Option.map_some, w71]
  have key := lp_up (n := 10) (P := fun m => ∀ r, (∀ t, t < 1024 → r t = nI (fwK ok W s m t)) → PW 0 ev mW_handOn 2 [.ref 43, .int (nI s), .int (nI M), .int (nI m)] [] (sr σ 47 r) K) ?_ ?_ 0 (by decide) (σ.1 47) (fun t ht => by rw [fwK_0]; exact hW t ht)
  · rw [sr_self] at key
    exact key
  · intro r hr
    refine PW_blk okW_handOn 1 rfl SpX_ok ?_
    simp only [wL0, wLc, true_and, w1, lg0, lgi, lgr, lgl, w0, w81]
    refine b3N (by decide) ?_
    refine PW_blk okW_handOn 7 rfl SpX_ok ?_
    simp only [wL0, w87]
    exact hk r hr
  · intro m hm ih r hr
    have hlt : s ||| 2 ^ m < 2 ^ 10 := or_lt hs hm
    have hlt2 : s ||| 2 ^ m < 1024 := hlt
    have fin : ∀ r, (∀ t, t < 1024 → r t = nI (fwK ok W s (m + 1) t)) → PW 0 ev mW_handOn 54 [.ref 43, .int (nI s), .int (nI M), .int (nI m), .int (nI (s ||| 2 ^ m))] [] (sr σ 47 r) K := by
      intro r hr
      refine PW_blk okW_handOn 6 rfl SpX_ok ?_
      simp only [wL0, wLc, true_and, w7, lg0, lgi, lgr, lgl, ls00, ls0i, ls0r, ls0l, lsi, lsr, lsl, Option.map_some, w70]
      refine PW_loc 4 ?_
      rw [show (1 : Int32) = nI 1 from rfl, nI_add]
      exact ih r hr
    refine PW_blk okW_handOn 1 rfl SpX_ok ?_
    simp only [wL0, wLc, true_and, w1, lg0, lgi, lgr, lgl, w0, w81]
    refine b3Y (nI_lt hm (by decide)) ?_
    refine PW_blk okW_handOn 2 rfl SpX_ok ?_
    simp only [wL0, wLc, true_and, w1, lg0, lgi, lgr, lgl, w55_1, q40, q41, q42, q43, q44, Option.toList_some, Option.toList_none, List.cons_append, List.nil_append, xp_W_isState, w72]
    refine bY (st1 hs) ?_
    refine PW_blk okW_handOn 3 rfl SpX_ok ?_
    simp only [wL0, wLc, true_and, w1, lg0, lgi, lgr, lgl, w0, w19, w17, w4, ls00, ls0i, ls0r, ls0l, lsi, lsr, lsl, Option.map_some, w20, w16, w72, nI_sh1 m (by omega), fa_or]
    rw [bit1 (by omega) (by omega)]
    by_cases c : M.testBit m = true
    · refine bY1 c ?_
      have e1 := hr s hs
      rw [fwK_low ho (Nat.le_refl _)] at e1
      refine PW_blk okW_handOn 4 rfl SpX_ok ?_
      simp only [wL0, wLc, true_and, w1, lg0, lgi, lgr, lgl, w55_1, q40, q41, q42, q43, q44, Option.toList_some, Option.toList_none, List.cons_append, List.nil_append, xp_W_isState, w72]
      refine bY (st1 hlt2) ?_
      refine PW_blk okW_handOn 5 rfl SpX_ok ?_
      simp only [wL0, wLc, true_and, w2, lg0, lgi, lgr, lgl, w35, kX43, rX43_4, kX47, nX47, w1, w10i, w10r, w39, w11, w40, w71, v1024 hlt2, c1024 hlt2, v1024 hs, c1024 hs, sr1, si_sr, hr _ hlt2, e1]
      rw [nI_add]
      refine fin _ (fun t ht => ?_)
      rw [fwK_s ho]
      by_cases e : t = s ||| 2 ^ m
      · rw [e, updS, cif_y ⟨(hb m hm).mp c, rfl⟩]
      · rw [updN e, hr t ht, cif_n (fun z => e z.2)]
        rfl
    · refine bN1 c (fin r (fun t ht => ?_))
      rw [fwK_s ho, cif_n (fun z => c ((hb m hm).mpr z.1)), hr t ht]
      rfl
theorem X_exploreRows (hX : XC σ 1 S) (hI : Inv S) (hk : ∀ σ1 r0, Wf σ σ1 → Tab σ1 S (nv S 2) → (∀ t, t < 1024 → r0 t = nI (if t = nv S 2 then 1 else 0)) → K none (sr σ1 47 r0)) : Rn 0 ev mW_exploreRows [.ref 43] σ K := by
  have hc := CH1
  have hp2 := p2le _ hI.1.2
  have hoT := hI.2.1.2
  refine Rn_V (by decide) rc4 rfl rfl ?_
  refine PW_blk okW_exploreRows 0 rfl SpX_ok ?_
  simp only [wL0, wLc, true_and, w2, lg0, lgi, lgr, lgl, w35, kX43, rX43_0, w33, CH_k hc, w54_2, q40, q41, q42, q43, q44, Option.toList_some, Option.toList_none, List.cons_append, List.nil_append, rX43_4, kX47, nX47, w0, w55_2, w55_1, xp_W_isState, w72, x4 hX hI]
  refine X_explore hX hI hI.2.1.2 (fun σ1 hW1 _ _ hT => ?_)
  simp only [wL0, wLc, true_and, w2, lg0, lgi, lgr, lgl, w35, kX43, rX43_0, w33, CH_k hc, w54_2, q40, q41, q42, q43, q44, Option.toList_some, Option.toList_none, List.cons_append, List.nil_append, rX43_4, kX47, nX47, w0, w55_2, w55_1, xp_W_isState, w72]
  refine X_fill (k := 47) (n := 1024) kX47 nX47 (by decide) (fun r0 h0 _ => ?_)
  have hX0 : XC (sr σ1 47 r0) 1 S := Wf_X (Wf_sr (by decide) hW1) hX
  simp only [wL0, wLc, true_and, w2, lg0, lgi, lgr, lgl, w35, kX43, rX43_0, w33, CH_k hc, w54_2, q40, q41, q42, q43, q44, Option.toList_some, Option.toList_none, List.cons_append, List.nil_append, rX43_4, kX47, nX47, w0, w55_2, w55_1, xp_W_isState, w72, x4 hX0 hI]
  refine bY (st1 (show nv S 2 < 1024 by omega)) ?_
  refine PW_blk okW_exploreRows 1 rfl SpX_ok ?_
  simp only [wL0, wLc, true_and, w2, lg0, lgi, lgr, lgl, w35, kX43, rX43_4, kX47, nX47, rX43_0, w33, CH_k hc, w0, w40, tn1, w71, x4 hX0 hI, v1024 (show nv S 2 < 1024 by omega), c1024 (show nv S 2 < 1024 by omega), si_sr]
  refine PW_blk okW_exploreRows 2 rfl SpX_ok ?_
  simp only [wL0, w87]
  refine hk σ1 _ hW1 hT (fun t ht => ?_)
  by_cases e : t = nv S 2
  · rw [e, updS, if_pos rfl]
    rfl
  · rw [updN e, h0 t ht, if_neg e]
    rfl
theorem X_waysOut (hX : XC σ 1 S) (hI : Inv S) (hk : ∀ σ', Wf σ σ' → K (some (.int (nI (suU (fun t => cif (outP S t) (cw S 1 (nv S 2) t) 0) 1024)))) σ') : Rn 0 ev mW_waysOut [.ref 43] σ K := by
  have hc := CH1
  have hn10 := hI.1.2
  have hp2 := p2le _ hn10
  have hoT := hI.2.1.2
  have hop := okW_p (S := S) (stop := 1) hn10
  refine Rn_V (by decide) rc4 rfl rfl ?_
  refine PW_blk okW_waysOut 0 rfl SpX_ok ?_
  simp only [wL0, wLc, true_and, w2, lg0, lgi, lgr, lgl, w54_1, q40, q41, q42, q43, q44, Option.toList_some, Option.toList_none, List.cons_append, List.nil_append, w0, w4, ls00, ls0i, ls0r, ls0l, lsi, lsr, lsl, Option.map_some, w71]
  refine X_exploreRows hX hI (fun σ1 r0 hW1 hT h0 => ?_)
  simp only [wL0, wLc, true_and, w2, lg0, lgi, lgr, lgl, w54_1, q40, q41, q42, q43, q44, Option.toList_some, Option.toList_none, List.cons_append, List.nil_append, w0, w4, ls00, ls0i, ls0r, ls0l, lsi, lsr, lsl, Option.map_some, w71]
  generalize hoo : nv S 2 = o at *
  have key := lp_up (n := 1024) (P := fun s => ∀ r, (∀ t, t < 1024 → r t = nI (fw (okW S 1) o s t)) → PW 0 ev mW_waysOut 8 [.ref 43, .int (nI (suU (fun t => cif (outP S t) (cw S 1 o t) 0) s)), .int (nI s)] [] (sr σ1 47 r) K) ?_ ?_ 0 (by decide) r0 h0
  · exact key
  · intro r hr
    refine PW_blk okW_waysOut 1 rfl SpX_ok ?_
    simp only [wL0, wLc, true_and, w1, lg0, lgi, lgr, lgl, w0, w81]
    refine b3N (by decide) ?_
    refine PW_blk okW_waysOut 8 rfl SpX_ok ?_
    simp only [wL0, wLc, true_and, w1, lg0, lgi, lgr, lgl, w84]
    exact hk _ (Wf_sr (by decide) hW1)
  · intro s hs ih r hr
    have hX' : XC (sr σ1 47 r) 1 S := Wf_X (Wf_sr (by decide) hW1) hX
    have hsm := fw_small hop (fr := o) (by omega) hs
    have ers := hr s hs
    have e : suU (fun t => cif (outP S t) (cw S 1 o t) 0) (s + 1) = suU (fun t => cif (outP S t) (cw S 1 o t) 0) s + cif (outP S s) (cw S 1 o s) 0 := rfl
    rw [e] at ih
    have next : ∀ x r, x = cif (outP S s) (cw S 1 o s) 0 → (∀ t, t < 1024 → r t = nI (fw (okW S 1) o (s + 1) t)) → PW 0 ev mW_waysOut 67 [.ref 43, .int (nI (suU (fun t => cif (outP S t) (cw S 1 o t) 0) s + x)), .int (nI s)] [] (sr σ1 47 r) K := by
      intro x r hx hr
      subst hx
      refine PW_blk okW_waysOut 7 rfl SpX_ok ?_
      simp only [wL0, wLc, true_and, w7, lg0, lgi, lgr, lgl, ls00, ls0i, ls0r, ls0l, lsi, lsr, lsl, Option.map_some, w70]
      rw [show (1 : Int32) = nI 1 from rfl, nI_add]
      exact ih r hr
    have ecw : cw S 1 o s = fw (okW S 1) o s s := rfl
    have enx : fw (okW S 1) o (s + 1) = fwK (okW S 1) (fw (okW S 1) o s) s 10 := rfl
    refine PW_blk okW_waysOut 1 rfl SpX_ok ?_
    simp only [wL0, wLc, true_and, w1, lg0, lgi, lgr, lgl, w0, w81]
    refine b3Y (nI_lt hs (by decide)) ?_
    refine PW_blk okW_waysOut 2 rfl SpX_ok ?_
    simp only [wL0, wLc, true_and, w2, lg0, lgi, lgr, lgl, w35, kX43, rX43_4, kX47, nX47, w1, w39, w72, v1024 hs, c1024 hs, sr1, ers]
    rw [nI_z (by omega)]
    by_cases c0 : fw (okW S 1) o s s = 0
    · refine b2Y c0 ?_
      refine PW_blk okW_waysOut 5 rfl SpX_ok ?_
      simp only [wL0, wLc, true_and, w2, lg0, lgi, lgr, lgl, w35, kX43, rX43_4, kX47, nX47, w1, w39, w72, v1024 hs, c1024 hs, sr1, ers]
      rw [nI_z (by omega)]
      refine b2Y c0 ?_
      refine next 0 r ?_ (fun t ht => by rw [enx, fwK_zero c0]; exact hr t ht)
      rw [ecw, c0]
      by_cases z : outP S s
      · rw [cif_y z]
      · rw [cif_n z]
    refine b2N c0 ?_
    refine PW_blk okW_waysOut 3 rfl SpX_ok ?_
    simp only [wL0, wLc, true_and, w2, lg0, lgi, lgr, lgl, w35, kX43, rX43_0, w1, w54_2, q40, q41, q42, q43, q44, Option.toList_some, Option.toList_none, List.cons_append, List.nil_append, xp_C_isOutAt, CH_e hc, w72, xr2 hX']
    by_cases c1 : outP S s
    · refine bY (if_pos c1) ?_
      refine PW_blk okW_waysOut 4 rfl SpX_ok ?_
      simp only [wL0, wLc, true_and, w1, lg0, lgi, lgr, lgl, w2, w35, kX43, rX43_4, kX47, nX47, w39, w11, w4, ls00, ls0i, ls0r, ls0l, lsi, lsr, lsl, Option.map_some, w70, v1024 hs, c1024 hs, sr1, ers]
      rw [nI_add]
      refine next _ r (by rw [cif_y c1, ecw]) (fun t ht => ?_)
      rw [enx, fwK_no (fun k z => z.2.2 (by decide) c1)]
      exact hr t ht
    · refine bN (if_neg c1) ?_
      refine PW_blk okW_waysOut 5 rfl SpX_ok ?_
      simp only [wL0, wLc, true_and, w2, lg0, lgi, lgr, lgl, w35, kX43, rX43_4, kX47, nX47, w1, w39, w72, v1024 hs, c1024 hs, sr1, ers]
      rw [nI_z (by omega)]
      refine b2N c0 ?_
      have hrc : rch S o s := cw1_r hn10 c0
      have hml := mayN_lt S s
      obtain ⟨t1, -⟩ := hT s hs
      refine PW_blk okW_waysOut 6 rfl SpX_ok ?_
      simp only [wL0, wLc, true_and, w2, lg0, lgi, lgr, lgl, w1, w35, kX43, rX43_1, kX44, nX44, w39, w54_3, q40, q41, q42, q43, q44, Option.toList_some, Option.toList_none, List.cons_append, List.nil_append, w71, v1024 hs, c1024 hs, sr1n (show 44 ≠ 47 by decide), (t1 hrc).1]
      refine X_handOn (ok := okW S 1) hop hs (by omega) (fun k _ => ?_) (fun t ht => by rw [sr1]; exact hr t ht) (fun r' hr' => ?_)
      · rw [mayN_bit]
        exact ⟨fun z => ⟨z.1, z.2, fun _ => c1⟩, fun z => ⟨z.1, z.2.1⟩⟩
      · simp only [wL0, wLc, true_and, w2, lg0, lgi, lgr, lgl, w1, w35, kX43, rX43_1, kX44, nX44, w39, w54_3, q40, q41, q42, q43, q44, Option.toList_some, Option.toList_none, List.cons_append, List.nil_append, w71, sr_sr]
        exact next 0 r' (by rw [cif_n c1]) hr'
theorem X_ever (hX : XC σ 1 S) (hI : Inv S) (hk : ∀ σ', Wf σ σ' → K (some (.int (nI (dif (orU (fun t => cif (cw S 0 (nv S 2) t ≠ 0) t 0) 1024) (nv S 2))))) σ') : Rn 0 ev mX_ever [.ref 0] σ K := by
  refine Rn_V (by decide) rc5 rfl rfl ?_
  refine PW_blk okX_ever 0 rfl SpX_ok ?_
  simp only [wL0, wLc, true_and, w2, lg0, lgi, lgr, lgl, w35, kX0, rX0_3, w54_1, q40, q41, q42, q43, q44, Option.toList_some, Option.toList_none, List.cons_append, List.nil_append, w84]
  refine X_everOff hX hI (fun σ' hW => ?_)
  simp only [wL0, wLc, true_and, w2, lg0, lgi, lgr, lgl, w35, kX0, rX0_3, w54_1, q40, q41, q42, q43, q44, Option.toList_some, Option.toList_none, List.cons_append, List.nil_append, w84]
  exact hk σ' hW
theorem X_states (hX : XC σ 1 S) (hI : Inv S) (hk : ∀ σ', Wf σ σ' → K (some (.int (nI (suU (fun t => cif (cw S 0 (nv S 2) t ≠ 0) 1 0) 1024)))) σ') : Rn 0 ev mX_states [.ref 0] σ K := by
  refine Rn_V (by decide) rc5 rfl rfl ?_
  refine PW_blk okX_states 0 rfl SpX_ok ?_
  simp only [wL0, wLc, true_and, w2, lg0, lgi, lgr, lgl, w35, kX0, rX0_3, w54_1, q40, q41, q42, q43, q44, Option.toList_some, Option.toList_none, List.cons_append, List.nil_append, w84]
  refine X_reachedStates hX hI (fun σ' hW => ?_)
  simp only [wL0, wLc, true_and, w2, lg0, lgi, lgr, lgl, w35, kX0, rX0_3, w54_1, q40, q41, q42, q43, q44, Option.toList_some, Option.toList_none, List.cons_append, List.nil_append, w84]
  exact hk σ' hW
theorem X_rows (hX : XC σ 1 S) (hI : Inv S) (hk : ∀ σ', Wf σ σ' → K (some (.int (nI (suU (fun t => cif (outP S t) (cw S 1 (nv S 2) t) 0) 1024)))) σ') : Rn 0 ev mX_rows [.ref 0] σ K := by
  refine Rn_V (by decide) rc5 rfl rfl ?_
  refine PW_blk okX_rows 0 rfl SpX_ok ?_
  simp only [wL0, wLc, true_and, w2, lg0, lgi, lgr, lgl, w35, kX0, rX0_3, w54_1, q40, q41, q42, q43, q44, Option.toList_some, Option.toList_none, List.cons_append, List.nil_append, w84]
  refine X_waysOut hX hI (fun σ' hW => ?_)
  simp only [wL0, wLc, true_and, w2, lg0, lgi, lgr, lgl, w35, kX0, rX0_3, w54_1, q40, q41, q42, q43, q44, Option.toList_some, Option.toList_none, List.cons_append, List.nil_append, w84]
  exact hk σ' hW
end WW
