/-! the class's ways: the least sums, settled from the last set back -/
def encM (r : Option Nat) : Int32 := match r with
  | none => 2147483647
  | some v => nI v
theorem encM_ne {v : Nat} (h : v ≤ 200000) : ¬ nI v = 2147483647 := by
  rw [show (2147483647 : Int32) = nI 2147483647 from rfl, nI_eq_iff (by omega) (by decide)]
  omega
theorem encM_lt {v : Nat} (h : v ≤ 200000) : nI v < 2147483647 := by
  rw [show (2147483647 : Int32) = nI 2147483647 from rfl, nI_lt_iff (by omega) (by decide)]
  omega
theorem encM_omin {acc : Option Nat} {v c : Nat} (ha : ∀ a, acc = some a → a ≤ 133120) (hv : c + v ≤ 200000) : encM (omin acc (some v) c) = if nI (c + v) < encM acc then nI (c + v) else encM acc := by
  cases acc with
  | none => rw [if_pos (show nI (c + v) < encM none from encM_lt hv)]; rfl
  | some a =>
    have := ha a rfl
    show encM (if c + v < a then some (c + v) else some a) = if nI (c + v) < nI a then _ else _
    by_cases h : c + v < a
    · rw [if_pos h, if_pos (nI_lt h (by omega))]; rfl
    · rw [if_neg h, if_neg (nI_nlt (by omega) (by omega))]
def lmU (S : Nat → Int32) (b o M : Nat) (rest : Nat → Option Nat) : Nat → Option Nat
  | 0 => none
  | k + 1 => if M.testBit k then omin (lmU S b o M rest k) (rest (o ||| 2 ^ k)) (costN S b k o) else lmU S b o M rest k
theorem lmU_may {S : Nat → Int32} {b o : Nat} {rest : Nat → Option Nat} : ∀ n, n ≤ nv S 3 → lmU S b o (mayN S o) rest n = lsU S b o rest n
  | 0, _ => rfl
  | n + 1, h => by
    have ih := lmU_may (S := S) (b := b) (o := o) (rest := rest) n (by omega)
    unfold lmU lsU
    rw [ih]
    by_cases c : (mayN S o).testBit n = true
    · rw [if_pos c, if_pos (show whyF S n o (nI (slackN S o)) (nI (hdN S o)) = 0 from (mayN_bit.mp c).2)]
    · rw [if_neg c, if_neg (show ¬ whyF S n o (nI (slackN S o)) (nI (hdN S o)) = 0 from fun z => c (mayN_bit.mpr ⟨by omega, z⟩))]
theorem lmU_end {S : Nat → Int32} {b o M : Nat} {rest : Nat → Option Nat} {m : Nat} (h : ∀ k, M.testBit k = true → k < m) : ∀ n, m ≤ n → lmU S b o M rest n = lmU S b o M rest m
  | 0, h2 => by rw [show m = 0 by omega]
  | n + 1, h2 => by
    by_cases e : m = n + 1
    · rw [e]
    · rw [← lmU_end h n (by omega)]
      show (if M.testBit n then _ else _) = _
      rw [if_neg (fun z => by have := h n z; omega)]
theorem lmU_10 {S : Nat → Int32} {b o : Nat} {rest : Nat → Option Nat} (hn : nv S 3 ≤ 10) : lmU S b o (mayN S o) rest 10 = lsU S b o rest (nv S 3) := by
  rw [lmU_end (m := nv S 3) (fun k h => (mayN_bit.mp h).1) 10 hn, lmU_may _ (Nat.le_refl _)]
theorem lmU_b {S : Nat → Int32} (hI : Inv S) {b o M : Nat} {rest : Nat → Option Nat} (hr : ∀ k v, M.testBit k = true → rest (o ||| 2 ^ k) = some v → costN S b k o + v ≤ 133120) : ∀ n v, lmU S b o M rest n = some v → v ≤ 133120
  | 0, v, h => by cases h
  | n + 1, v, h => by
    have ih := lmU_b hI hr n
    unfold lmU at h
    by_cases c : M.testBit n = true
    · rw [if_pos c] at h
      exact omin_le (B := 133120) ih (fun x hx => hr n x c hx) v h
    · rw [if_neg c] at h
      exact ih v h
theorem rest_b {S : Nat → Int32} (hI : Inv S) {b o k v : Nat} (ho : o < 1024) (hk : k < nv S 3) (hb : o.testBit k = false) (h : lst S b (o ||| 2 ^ k) = some v) : costN S b k o + v ≤ 133120 := by
  have hn := hI.1.2
  have h4 := or_gt hb
  have h5 : o ||| 2 ^ k < 2 ^ 10 := or_lt ho (by omega)
  have h6 := lst_le hI (1024 - (o ||| 2 ^ k)) _ h5 (Nat.le_refl _) v h
  have h7 := cost_le hI (b := b) (o := o) hk
  omega
section WY
variable {ev : EV} {σ : St2} {K : PO} {S : Nat → Int32}
theorem X_cost {k o b : Nat} (hX : XC σ 1 S) (hI : Inv S) (ho : o < 1024) (hkn : k < nv S 3) (hb : b ≤ 2) (h5 : σ.1 45 o = nI (slackN S o)) (h6 : σ.1 46 o = nI (hdN S o)) (hk : K (some (.int (nI (costN S b k o)))) σ) : Rn 0 ev mW_cost [.ref 43, .int (nI k), .int (nI o), .int (nI (pcn o)), .int (nI b)] σ K := by
  have hc := CH1
  unfold costN at hk
  refine Rn_V (by decide) rc4 rfl rfl ?_
  refine PW_blk okW_cost 0 rfl SpX_ok ?_
  simp only [wL0, wLc, true_and, w1, lg0, lgi, lgr, lgl, w55_1, q40, q41, q42, q43, q44, Option.toList_some, Option.toList_none, List.cons_append, List.nil_append, xp_W_isState, w73]
  refine dY (st1 ho) ?_
  refine PW_blk okW_cost 2 rfl SpX_ok ?_
  simp only [wL0, wLc, true_and, w1, lg0, lgi, lgr, lgl, w91, wS0, wSc]
  rcases (show b = 0 ∨ b = 1 ∨ b = 2 by omega) with rfl | rfl | rfl
  · rw [if_pos rfl] at hk
    refine ⟨fun _ => ?_, fun h => absurd rfl h⟩
    refine PW_blk okW_cost 3 rfl SpX_ok ?_
    simp only [wL0, wLc, true_and, w2, lg0, lgi, lgr, lgl, w35, kX43, rX43_0, w1, rX43_2, kX45, nX45, w39, rX43_3, kX46, nX46, w54_5, q40, q41, q42, q43, q44, Option.toList_some, Option.toList_none, List.cons_append, List.nil_append, w84, v1024 ho, c1024 ho, h5, h6]
    refine X_takes hc hX hI ho hkn ?_
    simp only [wL0, wLc, true_and, w2, lg0, lgi, lgr, lgl, w35, kX43, rX43_0, w1, rX43_2, kX45, nX45, w39, rX43_3, kX46, nX46, w54_5, q40, q41, q42, q43, q44, Option.toList_some, Option.toList_none, List.cons_append, List.nil_append, w84]
    exact hk
  · rw [if_neg (by decide), if_pos rfl] at hk
    refine ⟨fun h => absurd h (by decide), fun _ => ?_⟩
    refine ⟨fun _ => ?_, fun h => absurd rfl h⟩
    refine PW_blk okW_cost 4 rfl SpX_ok ?_
    simp only [wL0, wLc, true_and, w2, lg0, lgi, lgr, lgl, w35, kX43, rX43_0, w1, w54_2, q40, q41, q42, q43, q44, Option.toList_some, Option.toList_none, List.cons_append, List.nil_append, w84]
    refine X_sounds hc hX hI hkn ?_
    simp only [wL0, wLc, true_and, w2, lg0, lgi, lgr, lgl, w35, kX43, rX43_0, w1, w54_2, q40, q41, q42, q43, q44, Option.toList_some, Option.toList_none, List.cons_append, List.nil_append, w84]
    exact hk
  · rw [if_neg (by decide), if_neg (by decide)] at hk
    refine ⟨fun h => absurd h (by decide), fun _ => ?_⟩
    refine ⟨fun h => absurd h (by decide), fun _ => ?_⟩
    refine PW_blk okW_cost 5 rfl SpX_ok ?_
    simp only [wL0, wLc, true_and, w0, w84]
    exact hk
theorem X_leastOn {s M b q : Nat} {rest : Nat → Option Nat} (hX : XC σ 1 S) (hI : Inv S) (hs : s < 1024) (hM : M < 1024) (hb : b ≤ 2) (hq : (q < nC 0 ∧ (shp 0 q).1 = 100) = True) (hqn : (shp 0 q).2 = 1024) (hbit : ∀ k, M.testBit k = true → k < nv S 3) (h5 : σ.1 45 s = nI (slackN S s)) (h6 : σ.1 46 s = nI (hdN S s)) (hr : ∀ k, M.testBit k = true → σ.1 q (s ||| 2 ^ k) = encM (rest (s ||| 2 ^ k))) (hrb : ∀ k v, M.testBit k = true → rest (s ||| 2 ^ k) = some v → costN S b k s + v ≤ 133120) (hk : K (some (.int (encM (lmU S b s M rest 10)))) σ) : Rn 0 ev mW_leastOn [.ref 43, .int (nI s), .int (nI M), .int (nI b), .ref q] σ K := by
  have hn10 := hI.1.2
  have hq2 : (q < nC 0 ∧ ((shp 0 q).1 = 100 ∨ (shp 0 q).1 = 101)) = True := eq_true ⟨(of_eq_true hq).1, Or.inl (of_eq_true hq).2⟩
  refine Rn_V (by decide) rc4 rfl rfl ?_
  refine PW_blk okW_leastOn 0 rfl SpX_ok ?_
  simp only [wL0, wLc, true_and, w0, w4, ls00, ls0i, ls0r, ls0l, lsi, lsr, lsl, Option.map_some, w1, lg0, lgi, lgr, lgl, w55_1, q40, q41, q42, q43, q44, Option.toList_some, Option.toList_none, List.cons_append, List.nil_append, xp_JI_bitCount, w71, bcF_n s hs]
  have key := lp_up (n := 10) (P := fun k => PW 0 ev mW_leastOn 13 [.ref 43, .int (nI s), .int (nI M), .int (nI b), .ref q, .int (encM (lmU S b s M rest k)), .int (nI (pcn s)), .int (nI k)] [] σ K) ?_ ?_ 0 (by decide)
  · exact key
  · refine PW_blk okW_leastOn 1 rfl SpX_ok ?_
    simp only [wL0, wLc, true_and, w1, lg0, lgi, lgr, lgl, w0, w81]
    refine b3N (by decide) ?_
    refine PW_blk okW_leastOn 11 rfl SpX_ok ?_
    simp only [wL0, wLc, true_and, w1, lg0, lgi, lgr, lgl, w84]
    exact hk
  · intro k hk10 ih
    have e1 : lmU S b s M rest (k + 1) = if M.testBit k then omin (lmU S b s M rest k) (rest (s ||| 2 ^ k)) (costN S b k s) else lmU S b s M rest k := rfl
    have hlt : s ||| 2 ^ k < 2 ^ 10 := or_lt hs hk10
    have hlt2 : s ||| 2 ^ k < 1024 := hlt
    refine PW_blk okW_leastOn 1 rfl SpX_ok ?_
    simp only [wL0, wLc, true_and, w1, lg0, lgi, lgr, lgl, w0, w81]
    refine b3Y (nI_lt hk10 (by decide)) ?_
    refine PW_blk okW_leastOn 2 rfl SpX_ok ?_
    simp only [wL0, wLc, true_and, w1, lg0, lgi, lgr, lgl, w0, w19, w17, w4, ls00, ls0i, ls0r, ls0l, lsi, lsr, lsl, Option.map_some, w20, w16, w72, nI_sh1 k (by omega), fa_or]
    rw [bit1 (by omega) (by omega)]
    have skip : lmU S b s M rest (k + 1) = lmU S b s M rest k → PW 0 ev mW_leastOn 94 [.ref 43, .int (nI s), .int (nI M), .int (nI b), .ref q, .int (encM (lmU S b s M rest k)), .int (nI (pcn s)), .int (nI k), .int (nI (s ||| 2 ^ k))] [] σ K := by
      intro e
      rw [e] at ih
      refine PW_blk okW_leastOn 10 rfl SpX_ok ?_
      simp only [wL0, wLc, true_and, w7, lg0, lgi, lgr, lgl, ls00, ls0i, ls0r, ls0l, lsi, lsr, lsl, Option.map_some, w70]
      refine PW_loc 8 ?_
      rw [show (1 : Int32) = nI 1 from rfl, nI_add]
      exact ih
    by_cases hbk : M.testBit k = true
    rotate_left
    · exact bN1 hbk (skip (by rw [e1, if_neg hbk]))
    rw [if_pos hbk] at e1
    refine bY1 hbk ?_
    refine PW_blk okW_leastOn 3 rfl SpX_ok ?_
    simp only [wL0, wLc, true_and, w1, lg0, lgi, lgr, lgl, w74]
    refine b2N (lt0 (by omega)) ?_
    refine PW_blk okW_leastOn 4 rfl SpX_ok ?_
    simp only [wL0, wLc, true_and, w1, lg0, lgi, lgr, lgl, w2, w43, w81, hq2, hqn]
    refine b3Y (nI_lt hlt2 (by decide)) ?_
    have hkn := hbit k hbk
    have hrk := hr k hbk
    refine PW_blk okW_leastOn 5 rfl SpX_ok ?_
    simp only [wL0, wLc, true_and, w2, lg0, lgi, lgr, lgl, w1, w39, w0, w78, hq, hqn, v1024 hlt2, c1024 hlt2, hrk]
    cases e : rest (s ||| 2 ^ k) with
    | none =>
      refine b2Y rfl ?_
      exact skip (by rw [e1, e]; rfl)
    | some v =>
      have hv := hrb k v hbk e
      rw [e] at hrk
      refine b2N (encM_ne (by omega)) ?_
      refine PW_blk okW_leastOn 6 rfl SpX_ok ?_
      simp only [wL0, wLc, true_and, w2, lg0, lgi, lgr, lgl, w1, w39, w54_5, q40, q41, q42, q43, q44, Option.toList_some, Option.toList_none, List.cons_append, List.nil_append, w11, w4, ls00, ls0i, ls0r, ls0l, lsi, lsr, lsl, Option.map_some, w81, hq, hqn, v1024 hlt2, c1024 hlt2, hrk]
      refine X_cost hX hI hs hkn hb h5 h6 ?_
      simp only [wL0, wLc, true_and, w2, lg0, lgi, lgr, lgl, w1, w39, w54_5, q40, q41, q42, q43, q44, Option.toList_some, Option.toList_none, List.cons_append, List.nil_append, w11, w4, ls00, ls0i, ls0r, ls0l, lsi, lsr, lsl, Option.map_some, w81]
      have e3 := encM_omin (acc := lmU S b s M rest k) (v := v) (c := costN S b k s) (lmU_b hI hrb k) (by omega)
      rw [show encM (some v) = nI v from rfl, nI_add, Nat.add_comm v]
      have fin : ∀ x : Int32, x = encM (lmU S b s M rest (k + 1)) → PW 0 ev mW_leastOn 92 [.ref 43, .int (nI s), .int (nI M), .int (nI b), .ref q, .int (encM (lmU S b s M rest k)), .int (nI (pcn s)), .int (nI k), .int (nI (s ||| 2 ^ k)), .int (nI (costN S b k s + v))] [.int x] σ K := by
        intro x hx
        subst hx
        refine PW_blk okW_leastOn 9 rfl SpX_ok ?_
        simp only [wL0, wLc, true_and, w4, ls00, ls0i, ls0r, ls0l, lsi, lsr, lsl, Option.map_some, w71]
        refine PW_blk okW_leastOn 10 rfl SpX_ok ?_
        simp only [wL0, wLc, true_and, w7, lg0, lgi, lgr, lgl, ls00, ls0i, ls0r, ls0l, lsi, lsr, lsl, Option.map_some, w70]
        refine PW_loc 8 ?_
        rw [show (1 : Int32) = nI 1 from rfl, nI_add]
        exact ih
      by_cases hc2 : nI (costN S b k s + v) < encM (lmU S b s M rest k)
      · refine b3Y hc2 ?_
        refine PW_blk okW_leastOn 7 rfl SpX_ok ?_
        simp only [wL0, wLc, true_and, w1, lg0, lgi, lgr, lgl, w70]
        exact fin _ (by rw [e1, e, e3, if_pos hc2])
      · refine b3N hc2 ?_
        refine PW_blk okW_leastOn 8 rfl SpX_ok ?_
        simp only [wL0, wLc, true_and, w1, lg0, lgi, lgr, lgl, w71]
        exact fin _ (by rw [e1, e, e3, if_neg hc2])
theorem X_settle {fr b : Nat} (hX : XC σ 1 S) (hI : Inv S) (hf : fr < 2 ^ nv S 3) (hb : b ≤ 2) (hT : Tab σ S fr) (hk : ∀ r, (∀ t, t < 1024 → rch S fr t → r t = encM (lst S b t)) → K (some (.int (encM (lst S b fr)))) (sr σ 47 r)) : Rn 0 ev mW_settle [.ref 43, .int (nI fr), .int (nI b)] σ K := by
  have hn10 := hI.1.2
  have hp2 := p2le _ hn10
  have hc := CH1
  refine Rn_V (by decide) rc4 rfl rfl ?_
  refine PW_blk okW_settle 0 rfl SpX_ok ?_
  simp only [wL0, wLc, true_and, w1, lg0, lgi, lgr, lgl, w55_1, q40, q41, q42, q43, q44, Option.toList_some, Option.toList_none, List.cons_append, List.nil_append, xp_W_isState, w73]
  refine dY (st1 (show fr < 1024 by omega)) ?_
  refine PW_blk okW_settle 2 rfl SpX_ok ?_
  simp only [wL0, wLc, true_and, w0, w4, ls00, ls0i, ls0r, ls0l, lsi, lsr, lsl, Option.map_some, w71]
  have key := lp_dn (a := fr) (P := fun j => j ≤ 1024 → ∀ r, (∀ t, j ≤ t → t < 1024 → rch S fr t → r t = encM (lst S b t)) → PW 0 ev mW_settle 14 [.ref 43, .int (nI fr), .int (nI b), .int (nI j - 1)] [] (sr σ 47 r) K) ?_ ?_ 1024 (by omega) (Nat.le_refl _) (σ.1 47) (fun t h1 h2 _ => absurd h1 (by omega))
  · rw [sr_self] at key
    exact key
  · intro _ r hr
    refine PW_blk okW_settle 3 rfl SpX_ok ?_
    simp only [wL0, wLc, true_and, w1, lg0, lgi, lgr, lgl, w80]
    refine b2Y (m1_lt (by omega)) ?_
    refine PW_blk okW_settle 10 rfl SpX_ok ?_
    simp only [wL0, wLc, true_and, w2, lg0, lgi, lgr, lgl, w35, kX43, rX43_4, kX47, nX47, w1, w39, w84, v1024 (show fr < 1024 by omega), c1024 (show fr < 1024 by omega), sr1, hr fr (Nat.le_refl _) (by omega) (rch_fr hn10)]
    exact hk r (fun t ht hrt => hr t (rch_ge hn10 hrt) ht hrt)
  · intro s hs ih hle r hr
    have hs10 : s < 1024 := by omega
    have hX' : XC (sr σ 47 r) 1 S := XC_cong (fun i h1 h2 => sr1n (by omega)) hX
    rw [m1_s]
    refine PW_blk okW_settle 3 rfl SpX_ok ?_
    simp only [wL0, wLc, true_and, w1, lg0, lgi, lgr, lgl, w80]
    refine b2N (nI_nlt hs (by omega)) ?_
    have cont : ∀ r, (∀ t, s ≤ t → t < 1024 → rch S fr t → r t = encM (lst S b t)) → PW 0 ev mW_settle 66 [.ref 43, .int (nI fr), .int (nI b), .int (nI s)] [] (sr σ 47 r) K := by
      intro r hr
      refine PW_blk okW_settle 9 rfl SpX_ok ?_
      simp only [wL0, wLc, true_and, w7, lg0, lgi, lgr, lgl, ls00, ls0i, ls0r, ls0l, lsi, lsr, lsl, Option.map_some, w70, m1_add]
      exact ih (by omega) r hr
    obtain ⟨t1, t2⟩ := hT s hs10
    refine PW_blk okW_settle 4 rfl SpX_ok ?_
    simp only [wL0, wLc, true_and, w2, lg0, lgi, lgr, lgl, w35, kX43, rX43_1, kX44, nX44, w1, w39, w0, w78, v1024 hs10, c1024 hs10, sr1n (show 44 ≠ 47 by decide)]
    by_cases c : rch S fr s
    rotate_left
    · refine b2Y (t2 c) ?_
      refine cont r (fun t h1 h2 h3 => hr t ?_ h2 h3)
      have : t ≠ s := fun e => c (e ▸ h3)
      omega
    obtain ⟨m4, m5, m6⟩ := t1 c
    have hml := mayN_lt S s
    refine b2N (by rw [m4]; exact m1_ne (by omega)) ?_
    have fin : ∀ x : Int32, x = encM (lst S b s) → PW 0 ev mW_settle 65 [.ref 43, .int (nI fr), .int (nI b), .int (nI s)] [.int x, .int (nI s), .ref 47] (sr σ 47 r) K := by
      intro x hx
      subst hx
      refine PW_blk okW_settle 8 rfl SpX_ok ?_
      simp only [wL0, wLc, true_and, w40, w71, kX47, nX47, v1024 hs10, c1024 hs10, si_sr]
      refine cont _ (fun t h1 h2 h3 => ?_)
      by_cases e : t = s
      · subst e; exact updS
      · rw [updN e]; exact hr t (by omega) h2 h3
    refine PW_blk okW_settle 5 rfl SpX_ok ?_
    simp only [wL0, wLc, true_and, w2, lg0, lgi, lgr, lgl, w35, kX43, rX43_4, kX47, nX47, w1, rX43_0, w54_2, q40, q41, q42, q43, q44, Option.toList_some, Option.toList_none, List.cons_append, List.nil_append, xp_C_isOutAt, CH_e hc, w72, xr2 hX']
    by_cases hout : outP S s
    · refine bY (if_pos hout) ?_
      refine PW_blk okW_settle 6 rfl SpX_ok ?_
      simp only [wL0, wLc, true_and, w0, w70]
      exact fin 0 (by rw [lst_out hn10 hs10 hout]; rfl)
    · refine bN (if_neg hout) ?_
      have bits : ∀ k, (mayN S s).testBit k = true → k < nv S 3 ∧ s.testBit k = false := fun k hb => ⟨(mayN_bit.mp hb).1, why_bit (mayN_bit.mp hb).2⟩
      refine PW_blk okW_settle 7 rfl SpX_ok ?_
      simp only [wL0, wLc, true_and, w2, lg0, lgi, lgr, lgl, w1, w35, kX43, rX43_1, kX44, nX44, w39, rX43_4, kX47, nX47, w54_5, q40, q41, q42, q43, q44, Option.toList_some, Option.toList_none, List.cons_append, List.nil_append, w71, v1024 hs10, c1024 hs10, sr1n (show 44 ≠ 47 by decide), m4]
      refine X_leastOn (rest := lst S b) hX' hI hs10 (by omega) hb kX47 nX47 (fun k hb => (bits k hb).1) (by rw [sr1n (by decide)]; exact m5) (by rw [sr1n (by decide)]; exact m6) (fun k hb => ?_) (fun k v hb hv => rest_b hI hs10 (bits k hb).1 (bits k hb).2 hv) ?_
      · have hg := or_gt (bits k hb).2
        have hl : s ||| 2 ^ k < 2 ^ 10 := or_lt hs10 (by have := (bits k hb).1; omega)
        rw [sr1]
        exact hr _ hg hl (rch_to hn10 hb c)
      · simp only [wL0, wLc, true_and, w2, lg0, lgi, lgr, lgl, w1, w35, kX43, rX43_1, kX44, nX44, w39, rX43_4, kX47, nX47, w54_5, q40, q41, q42, q43, q44, Option.toList_some, Option.toList_none, List.cons_append, List.nil_append, w71]
        refine fin _ ?_
        rw [lst_in hn10 hs10 hout, lmU_10 hn10]
theorem X_leastFrom {fr b : Nat} (hX : XC σ 1 S) (hI : Inv S) (hf : fr < 2 ^ nv S 3) (hb : b ≤ 2) (hk : ∀ σ', Wf σ σ' → σ'.1 43 = σ.1 43 → σ'.1 50 = σ.1 50 → Tab σ' S fr → (∀ t, t < 1024 → rch S fr t → σ'.1 47 t = encM (lst S b t)) → K (some (.int (encM (lst S b fr)))) σ') : Rn 0 ev mW_leastFrom [.ref 43, .int (nI fr), .int (nI b)] σ K := by
  refine Rn_V (by decide) rc4 rfl rfl ?_
  refine PW_blk okW_leastFrom 0 rfl SpX_ok ?_
  simp only [wL0, wLc, true_and, w2, lg0, lgi, lgr, lgl, w1, w54_2, q40, q41, q42, q43, q44, Option.toList_some, Option.toList_none, List.cons_append, List.nil_append, w54_3, w84]
  refine X_explore hX hI hf (fun σ' hW w43 w50 hT => ?_)
  simp only [wL0, wLc, true_and, w2, lg0, lgi, lgr, lgl, w1, w54_2, q40, q41, q42, q43, q44, Option.toList_some, Option.toList_none, List.cons_append, List.nil_append, w54_3, w84]
  refine X_settle (Wf_X hW hX) hI hf hb hT (fun r hr => ?_)
  simp only [wL0, wLc, true_and, w2, lg0, lgi, lgr, lgl, w1, w54_2, q40, q41, q42, q43, q44, Option.toList_some, Option.toList_none, List.cons_append, List.nil_append, w54_3, w84]
  refine hk _ (Wf_sr (by decide) hW) (by rw [sr1n (by decide)]; exact w43) (by rw [sr1n (by decide)]; exact w50) (fun t ht => ?_) (fun t ht h => by rw [sr1]; exact hr t ht h)
  rw [sr1n (by decide), sr1n (by decide), sr1n (by decide)]
  exact hT t ht
theorem X_orNone {r : Option Nat} (hr : ∀ v, r = some v → v ≤ 200000) (h1 : r = none → K (some (.int (-1000004))) (noX σ 3)) (h2 : ∀ v, r = some v → K (some (.int (nI v))) σ) : Rn 0 ev mX_orNone [.ref 0, .int (encM r)] σ K := by
  refine Rn_V (by decide) rc5 rfl rfl ?_
  refine PW_blk okX_orNone 0 rfl SpX_ok ?_
  simp only [wL0, wLc, true_and, w1, lg0, lgi, lgr, lgl, w0, w79]
  cases r with
  | none =>
    refine b3Y rfl ?_
    refine PW_blk okX_orNone 1 rfl SpX_ok ?_
    simp only [wL0, wLc, true_and, w2, lg0, lgi, lgr, lgl, w0, w54_2, q40, q41, q42, q43, q44, Option.toList_some, Option.toList_none, List.cons_append, List.nil_append, xp_X_tell, tl0, tl1, tl2, tl3, tl4, tl5, tl6, tq0, tq1, tq2, tq3, tq4, tq5, tq6, w70]
    refine PW_blk okX_orNone 3 rfl SpX_ok ?_
    simp only [wL0, w84]
    exact h1 rfl
  | some v =>
    refine b3N (encM_ne (hr v rfl)) ?_
    refine PW_blk okX_orNone 2 rfl SpX_ok ?_
    simp only [wL0, wLc, true_and, w1, lg0, lgi, lgr, lgl, w71]
    refine PW_blk okX_orNone 3 rfl SpX_ok ?_
    simp only [wL0, w84]
    exact h2 v rfl
theorem X_soonest {b : Nat} (hb : b = 0) (hX : XC σ 1 S) (hI : Inv S) (h1 : lst S b (nv S 2) = none → ∀ σ', Wf σ σ' → K (some (.int (-1000004))) (noX σ' 3)) (h2 : ∀ v, lst S b (nv S 2) = some v → ∀ σ', Wf σ σ' → K (some (.int (nI v))) σ') : Rn 0 ev mX_soonest [.ref 0] σ K := by
  have hlt : nv S 2 < 1024 := by have := hI.2.1.1.2; omega
  subst hb
  have hc := CH1
  refine Rn_V (by decide) rc5 rfl rfl ?_
  refine PW_blk okX_soonest 0 rfl SpX_ok ?_
  simp only [wL0, wLc, true_and, w2, lg0, lgi, lgr, lgl, w35, kX0, rX0_3, rX0_0, w33, CH_k hc, w0, w54_3, q40, q41, q42, q43, q44, Option.toList_some, Option.toList_none, List.cons_append, List.nil_append, w54_2, w84, x4 hX hI]
  refine X_leastFrom (b := 0) hX hI hI.2.1.2 (by decide) (fun σ' hW _ _ _ _ => ?_)
  simp only [wL0, wLc, true_and, w2, lg0, lgi, lgr, lgl, w35, kX0, rX0_3, rX0_0, w33, CH_k hc, w0, w54_3, q40, q41, q42, q43, q44, Option.toList_some, Option.toList_none, List.cons_append, List.nil_append, w54_2, w84]
  refine X_orNone (fun v hv => by have := lst_lt hI hlt hv; omega) (fun e => ?_) (fun v e => ?_)
  · simp only [wL0, wLc, true_and, w2, lg0, lgi, lgr, lgl, w35, kX0, rX0_3, rX0_0, w33, CH_k hc, w0, w54_3, q40, q41, q42, q43, q44, Option.toList_some, Option.toList_none, List.cons_append, List.nil_append, w54_2, w84]
    exact h1 e _ hW
  · simp only [wL0, wLc, true_and, w2, lg0, lgi, lgr, lgl, w35, kX0, rX0_3, rX0_0, w33, CH_k hc, w0, w54_3, q40, q41, q42, q43, q44, Option.toList_some, Option.toList_none, List.cons_append, List.nil_append, w54_2, w84]
    exact h2 v e _ hW
theorem X_quietest {b : Nat} (hb : b = 1) (hX : XC σ 1 S) (hI : Inv S) (h1 : lst S b (nv S 2) = none → ∀ σ', Wf σ σ' → K (some (.int (-1000004))) (noX σ' 3)) (h2 : ∀ v, lst S b (nv S 2) = some v → ∀ σ', Wf σ σ' → K (some (.int (nI v))) σ') : Rn 0 ev mX_quietest [.ref 0] σ K := by
  have hlt : nv S 2 < 1024 := by have := hI.2.1.1.2; omega
  subst hb
  have hc := CH1
  refine Rn_V (by decide) rc5 rfl rfl ?_
  refine PW_blk okX_quietest 0 rfl SpX_ok ?_
  simp only [wL0, wLc, true_and, w2, lg0, lgi, lgr, lgl, w35, kX0, rX0_3, rX0_0, w33, CH_k hc, w0, w54_3, q40, q41, q42, q43, q44, Option.toList_some, Option.toList_none, List.cons_append, List.nil_append, w54_2, w84, x4 hX hI]
  refine X_leastFrom (b := 1) hX hI hI.2.1.2 (by decide) (fun σ' hW _ _ _ _ => ?_)
  simp only [wL0, wLc, true_and, w2, lg0, lgi, lgr, lgl, w35, kX0, rX0_3, rX0_0, w33, CH_k hc, w0, w54_3, q40, q41, q42, q43, q44, Option.toList_some, Option.toList_none, List.cons_append, List.nil_append, w54_2, w84]
  refine X_orNone (fun v hv => by have := lst_lt hI hlt hv; omega) (fun e => ?_) (fun v e => ?_)
  · simp only [wL0, wLc, true_and, w2, lg0, lgi, lgr, lgl, w35, kX0, rX0_3, rX0_0, w33, CH_k hc, w0, w54_3, q40, q41, q42, q43, q44, Option.toList_some, Option.toList_none, List.cons_append, List.nil_append, w54_2, w84]
    exact h1 e _ hW
  · simp only [wL0, wLc, true_and, w2, lg0, lgi, lgr, lgl, w35, kX0, rX0_3, rX0_0, w33, CH_k hc, w0, w54_3, q40, q41, q42, q43, q44, Option.toList_some, Option.toList_none, List.cons_append, List.nil_append, w54_2, w84]
    exact h2 v e _ hW
theorem X_fewest {b : Nat} (hb : b = 2) (hX : XC σ 1 S) (hI : Inv S) (h1 : lst S b (nv S 2) = none → ∀ σ', Wf σ σ' → K (some (.int (-1000004))) (noX σ' 3)) (h2 : ∀ v, lst S b (nv S 2) = some v → ∀ σ', Wf σ σ' → K (some (.int (nI v))) σ') : Rn 0 ev mX_fewest [.ref 0] σ K := by
  have hlt : nv S 2 < 1024 := by have := hI.2.1.1.2; omega
  subst hb
  have hc := CH1
  refine Rn_V (by decide) rc5 rfl rfl ?_
  refine PW_blk okX_fewest 0 rfl SpX_ok ?_
  simp only [wL0, wLc, true_and, w2, lg0, lgi, lgr, lgl, w35, kX0, rX0_3, rX0_0, w33, CH_k hc, w0, w54_3, q40, q41, q42, q43, q44, Option.toList_some, Option.toList_none, List.cons_append, List.nil_append, w54_2, w84, x4 hX hI]
  refine X_leastFrom (b := 2) hX hI hI.2.1.2 (by decide) (fun σ' hW _ _ _ _ => ?_)
  simp only [wL0, wLc, true_and, w2, lg0, lgi, lgr, lgl, w35, kX0, rX0_3, rX0_0, w33, CH_k hc, w0, w54_3, q40, q41, q42, q43, q44, Option.toList_some, Option.toList_none, List.cons_append, List.nil_append, w54_2, w84]
  refine X_orNone (fun v hv => by have := lst_lt hI hlt hv; omega) (fun e => ?_) (fun v e => ?_)
  · simp only [wL0, wLc, true_and, w2, lg0, lgi, lgr, lgl, w35, kX0, rX0_3, rX0_0, w33, CH_k hc, w0, w54_3, q40, q41, q42, q43, q44, Option.toList_some, Option.toList_none, List.cons_append, List.nil_append, w54_2, w84]
    exact h1 e _ hW
  · simp only [wL0, wLc, true_and, w2, lg0, lgi, lgr, lgl, w35, kX0, rX0_3, rX0_0, w33, CH_k hc, w0, w54_3, q40, q41, q42, q43, q44, Option.toList_some, Option.toList_none, List.cons_append, List.nil_append, w54_2, w84]
    exact h2 v e _ hW
end WY
