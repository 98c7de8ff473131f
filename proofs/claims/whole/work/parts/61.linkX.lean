/-! the smith: kinds, goals, links -/
/-- S with b in AFTER of a -/
def lkS (S : Nat → Int32) (a b : Nat) : Nat → Int32 := upd S (tr a 8) (nI (nv S (tr a 8) ||| 2 ^ b))
section LK
variable {S : Nat → Int32} {a b : Nat}
theorem lk_i {i : Nat} (h : i ≠ tr a 8) : lkS S a b i = S i := updN h
theorem lk_t {k f : Nat} (hf : f < 10) (h : f ≠ 8) : lkS S a b (tr k f) = S (tr k f) := lk_i (fun e => h (tr_inj hf (by decide) e).2)
theorem lk_nv {i : Nat} (h : i ≠ tr a 8) : nv (lkS S a b) i = nv S i := by unfold nv; rw [lk_i h]
theorem lk_3 : nv (lkS S a b) 3 = nv S 3 := lk_nv (by unfold tr; omega)
theorem lk_sl (o : Nat) : slackN (lkS S a b) o = slackN S o := by
  have key : ∀ n, slU (lkS S a b) o n = slU S o n := by
    intro n
    induction n with
    | zero => exact lk_nv (by unfold tr; omega)
    | succ n ih => unfold slU; rw [ih, agM_nv (lk_t (S := S) (a := a) (b := b) (k := n) (f := 2) (by decide) (by decide))]
  unfold slackN
  rw [lk_3, key]
theorem lk_fr (o : Nat) : frN (lkS S a b) o = frN S o := by
  have key : ∀ n, bdU (lkS S a b) o n = bdU S o n := by
    intro n
    induction n with
    | zero => rfl
    | succ n ih => unfold bdU; rw [ih, agM_nv (lk_t (S := S) (a := a) (b := b) (k := n) (f := 4) (by decide) (by decide))]
  unfold frN
  rw [lk_3, key]
theorem lk_hd (o : Nat) : hdN (lkS S a b) o = hdN S o := by unfold hdN; rw [lk_fr]
theorem lk_cost (q k o : Nat) : costN (lkS S a b) q k o = costN S q k o := by
  have e0 : nv (lkS S a b) (tr k 0) = nv S (tr k 0) := agM_nv (lk_t (by decide) (by decide))
  have e1 : nv (lkS S a b) (tr k 1) = nv S (tr k 1) := agM_nv (lk_t (by decide) (by decide))
  unfold costN takesN soundN
  rw [e0, e1, lk_sl, lk_hd]
theorem lk_after (hI : Inv S) (ha : a < nv S 3) (hb : b < 10) {o : Nat} (ho : o < 1024) : (lkS S a b (tr a 8) &&& (nI o ^^^ -1) = 0) ↔ (S (tr a 8) &&& (nI o ^^^ -1) = 0) ∧ o.testBit b = true := by
  have h8 := (hI.2.2.2.2.2.2.2.2.1 a ha).2.2.2.2.2.2.2.2.1
  have h8l := h8.2
  have hlt : nv S (tr a 8) ||| 2 ^ b < 2 ^ 10 := or_lt (by omega) hb
  have e : lkS S a b (tr a 8) = nI (nv S (tr a 8) ||| 2 ^ b) := updS
  rw [e, nI_not hlt ho]
  have e2 : (S (tr a 8) &&& (nI o ^^^ -1) = 0) ↔ nv S (tr a 8) &&& o = nv S (tr a 8) := by
    conv => lhs; rw [h8.1]
    exact nI_not (by omega) ho
  rw [e2]
  generalize nv S (tr a 8) = x
  constructor
  · intro h
    have hbit : ∀ i, (x ||| 2 ^ b).testBit i = true → o.testBit i = true := fun i hi => by
      have h2 := congrArg (fun n => Nat.testBit n i) h
      simp only [Nat.testBit_and, hi, Bool.true_and] at h2
      exact h2
    refine ⟨?_, hbit b (by rw [bit_or]; simp)⟩
    apply Nat.eq_of_testBit_eq
    intro i
    rw [Nat.testBit_and]
    cases hx : x.testBit i with
    | false => rfl
    | true => rw [hbit i (by rw [bit_or, hx]; rfl)]; rfl
  · intro ⟨h, hb2⟩
    apply Nat.eq_of_testBit_eq
    intro i
    rw [Nat.testBit_and, bit_or]
    have h2 := congrArg (fun n => Nat.testBit n i) h
    simp only [Nat.testBit_and] at h2
    cases hx : x.testBit i with
    | true => rw [hx] at h2; rw [Bool.true_and] at h2; rw [h2]; rfl
    | false =>
      by_cases e : i = b
      · subst e; rw [hb2]; simp
      · simp [e]
theorem lk_mayok (hI : Inv S) (ha : a < nv S 3) (hb : b < 10) {k o : Nat} (ho : o < 1024) : mayok (lkS S a b) k o ↔ mayok S k o ∧ (k = a → o.testBit b = true) := by
  unfold mayok
  rw [lk_sl, lk_hd]
  unfold whyF
  have e4 : lkS S a b 4 = S 4 := lk_i (by unfold tr; omega)
  rw [e4, lk_t (k := k) (f := 3) (by decide) (by decide), lk_t (k := k) (f := 5) (by decide) (by decide), lk_t (k := k) (f := 6) (by decide) (by decide), lk_t (k := k) (f := 9) (by decide) (by decide)]
  by_cases c1 : o.testBit k = true
  · rw [if_pos c1, if_pos c1]; exact ⟨fun z => absurd z (by decide), fun z => z.1⟩
  rw [if_neg c1, if_neg c1]
  by_cases c2 : nI (slackN S o) < S (tr k 3)
  · rw [if_pos c2, if_pos c2]; exact ⟨fun z => absurd z (by decide), fun z => z.1⟩
  rw [if_neg c2, if_neg c2]
  by_cases c3 : nI (hdN S o) < S (tr k 5)
  · rw [if_pos c3, if_pos c3]; exact ⟨fun z => absurd z (by decide), fun z => z.1⟩
  rw [if_neg c3, if_neg c3]
  by_cases c4 : 0 < S (tr k 6) ∧ ¬ isInF (S 4) (S (tr k 6) - 1) = 1
  · rw [if_pos c4, if_pos c4]; exact ⟨fun z => absurd z (by decide), fun z => z.1⟩
  rw [if_neg c4, if_neg c4]
  have tail : ∀ P Q : Prop, ∀ [Decidable P] [Decidable Q], ((if ¬ P then (5 : Int32) else if ¬ Q then 6 else 0) = 0) ↔ P ∧ Q := fun P Q _ _ => by
    by_cases p : P
    · rw [if_neg (fun z => z p)]
      by_cases q : Q
      · rw [if_neg (fun z => z q)]; exact ⟨fun _ => ⟨p, q⟩, fun _ => rfl⟩
      · rw [if_pos q]; exact ⟨fun z => absurd z (by decide), fun z => absurd z.2 q⟩
    · rw [if_pos p]; exact ⟨fun z => absurd z (by decide), fun z => absurd z.1 p⟩
  rw [tail, tail]
  by_cases e : k = a
  · subst e
    rw [lk_after hI ha hb ho]
    exact ⟨fun z => ⟨⟨z.1.1, z.2⟩, fun _ => z.1.2⟩, fun z => ⟨⟨z.1.1, z.2 rfl⟩, z.1.2⟩⟩
  · have e8 : lkS S a b (tr k 8) = S (tr k 8) := lk_i (fun y => e (tr_inj (by decide) (by decide) y).1)
    rw [e8]
    exact ⟨fun z => ⟨z, fun y => absurd y e⟩, fun z => z.1⟩
theorem lk_out (o : Nat) : outP (lkS S a b) o ↔ outP S o := by
  unfold outP
  rw [lk_i (by unfold tr; omega)]
theorem lk_Inv (hI : Inv S) (ha : a < nv S 3) (hb : b < 10) : Inv (lkS S a b) := by
  have h8 := (hI.2.2.2.2.2.2.2.2.1 a ha).2.2.2.2.2.2.2.2.1
  have h8l := h8.2
  have hlt : nv S (tr a 8) ||| 2 ^ b < 2 ^ 10 := or_lt (by omega) hb
  exact Inv_changeB hI ha (by decide) (Nat.zero_le _) (show _ ≤ 1023 by omega)
theorem lsU_c2 {S' : Nat → Int32} {q o : Nat} {r r' : Nat → Option Nat} (hm : ∀ k, mayok S' k o ↔ mayok S k o) (hc : ∀ k, costN S' q k o = costN S q k o) (hsl : slackN S' o = slackN S o) : ∀ n, (∀ k, k < n → mayok S k o → r' (o ||| 2 ^ k) = r (o ||| 2 ^ k)) → lsU S' q o r' n = lsU S q o r n
  | 0, _ => rfl
  | n + 1, h => by
    have ih := lsU_c2 (q := q) hm hc hsl n (fun k hk => h k (by omega))
    unfold lsU
    rw [ih, hc]
    by_cases c : mayok S n o
    · rw [if_pos (show whyF S' n o (nI (slackN S' o)) (nI (hdN S' o)) = 0 from (hm n).mpr c), if_pos (show whyF S n o (nI (slackN S o)) (nI (hdN S o)) = 0 from c), h n (by omega) c]
    · rw [if_neg (show ¬ whyF S' n o (nI (slackN S' o)) (nI (hdN S' o)) = 0 from fun z => c ((hm n).mp z)), if_neg (show ¬ whyF S n o (nI (slackN S o)) (nI (hdN S o)) = 0 from c)]
/-- where a or b is off the link bars nothing -/
theorem lk_free (hI : Inv S) (ha : a < nv S 3) (hb : b < 10) {q : Nat} : ∀ f o, 1024 - o ≤ f → o < 1024 → (o.testBit a = true ∨ o.testBit b = true) → lst (lkS S a b) q o = lst S q o := by
  intro f
  induction f with
  | zero => intro o h1 h2; omega
  | succ f ih =>
    intro o h1 h2 h3
    have hn := hI.1.2
    by_cases c : outP S o
    · rw [lst_out (by rw [lk_3]; exact hn) h2 ((lk_out o).mpr c), lst_out hn h2 c]
    · rw [lst_in (by rw [lk_3]; exact hn) h2 (fun z => c ((lk_out o).mp z)), lst_in hn h2 c, lk_3]
      refine lsU_c2 (fun k => ?_) (fun k => lk_cost q k o) (lk_sl o) _ (fun k hk hm => ?_)
      · rw [lk_mayok hI ha hb h2]
        refine ⟨fun z => z.1, fun z => ⟨z, fun e => ?_⟩⟩
        subst e
        rcases h3 with h3 | h3
        · rw [why_bit z] at h3; cases h3
        · exact h3
      · have hbk := why_bit hm
        have hg := or_gt hbk
        have hl : o ||| 2 ^ k < 2 ^ 10 := or_lt h2 (by omega)
        refine ih _ (by omega) hl ?_
        rcases h3 with h3 | h3
        · exact Or.inl (by rw [bit_or, h3]; rfl)
        · exact Or.inr (by rw [bit_or, h3]; rfl)
theorem lmU_c {S' : Nat → Int32} {q o M : Nat} {r : Nat → Option Nat} (hc : ∀ k, costN S' q k o = costN S q k o) : ∀ n, lmU S' q o M r n = lmU S q o M r n
  | 0 => rfl
  | n + 1 => by unfold lmU; rw [lmU_c hc n, hc]
/-- where both are on, a may not come off -/
theorem lk_both (hI : Inv S) (ha : a < nv S 3) (hb : b < 10) {o : Nat} (ho : o < 1024) (h3 : o.testBit b = false) : mayN (lkS S a b) o = dif (mayN S o) (2 ^ a) := by
  have hn := hI.1.2
  have hT := p2le _ hn
  have hml := mayN_lt S o
  apply Nat.eq_of_testBit_eq
  intro i
  rw [Bool.eq_iff_iff, mayN_bit, lk_mayok hI ha hb ho, lk_3, dif_bit i (by omega), Bool.and_eq_true, mayN_bit, Nat.testBit_two_pow]
  constructor
  · intro ⟨h1, h2, h4⟩
    refine ⟨⟨h1, h2⟩, ?_⟩
    by_cases e : a = i
    · rw [h4 e.symm] at h3; cases h3
    · simp [e]
  · intro ⟨⟨h1, h2⟩, h4⟩
    refine ⟨h1, h2, fun e => ?_⟩
    subst e
    simp at h4
end LK
section LY
variable {ev : EV} {σ : St2} {K : PO} {S : Nat → Int32}
theorem and_both {s a b : Nat} : (s &&& (2 ^ a ||| 2 ^ b) = 0) ↔ s.testBit a = false ∧ s.testBit b = false := by
  constructor
  · intro h
    have h1 := congrArg (fun n => Nat.testBit n a) h
    have h2 := congrArg (fun n => Nat.testBit n b) h
    simp only [Nat.testBit_and, Nat.testBit_or, Nat.testBit_two_pow, Nat.zero_testBit] at h1 h2
    simp at h1 h2
    exact ⟨h1, h2⟩
  · intro ⟨h1, h2⟩
    apply Nat.eq_of_testBit_eq
    intro i
    rw [Nat.testBit_and, Nat.testBit_or, Nat.testBit_two_pow, Nat.testBit_two_pow, Nat.zero_testBit]
    by_cases e : a = i
    · subst e; rw [h1]; rfl
    · by_cases e2 : b = i
      · subst e2; rw [h2]; rfl
      · simp [e, e2]
theorem X_settleLinked {fr a b : Nat} (hX : XC σ 1 S) (hI : Inv S) (hf : fr < 2 ^ nv S 3) (ha : a < nv S 3) (hb : b < nv S 3) (hT : Tab σ S fr) (h47 : ∀ t, t < 1024 → rch S fr t → σ.1 47 t = encM (lst S 0 t)) (hk : ∀ r, K (some (.int (encM (lst (lkS S a b) 0 fr)))) (sr σ 48 r)) : Rn 0 ev mW_settleLinked [.ref 43, .int (nI fr), .int (nI a), .int (nI b)] σ K := by
  have hn10 := hI.1.2
  have hp2 := p2le _ hn10
  have hc := CH1
  have hb10 : b < 10 := by omega
  have hIl := lk_Inv hI ha hb10
  have hnl : nv (lkS S a b) 3 ≤ 10 := by rw [lk_3]; exact hn10
  refine Rn_V (by decide) rc4 rfl rfl ?_
  refine PW_blk okW_settleLinked 0 rfl SpX_ok ?_
  simp only [wL0, wLc, true_and, w1, lg0, lgi, lgr, lgl, w55_1, q40, q41, q42, q43, q44, Option.toList_some, Option.toList_none, List.cons_append, List.nil_append, xp_W_isState, w73]
  refine dY (st1 (show fr < 1024 by omega)) ?_
  refine PW_blk okW_settleLinked 2 rfl SpX_ok ?_
  simp only [wL0, wLc, true_and, w0, w1, lg0, lgi, lgr, lgl, w19, w17, w4, ls00, ls0i, ls0r, ls0l, lsi, lsr, lsl, Option.map_some, w71, nI_sh1 a (by omega), nI_sh1 b (by omega), fa_or]
  have hab : 2 ^ a ||| 2 ^ b < 2 ^ 10 := Nat.or_lt_two_pow (Nat.pow_lt_pow_right (by decide) (by omega)) (Nat.pow_lt_pow_right (by decide) (by omega))
  have key := lp_dn (a := fr) (P := fun j => j ≤ 1024 → ∀ r, (∀ t, j ≤ t → t < 1024 → rch S fr t → r t = encM (lst (lkS S a b) 0 t)) → PW 0 ev mW_settleLinked 24 [.ref 43, .int (nI fr), .int (nI a), .int (nI b), .int (nI (2 ^ a ||| 2 ^ b)), .int (nI j - 1)] [] (sr σ 48 r) K) ?_ ?_ 1024 (by omega) (Nat.le_refl _) (σ.1 48) (fun t h1 h2 _ => absurd h1 (by omega))
  · rw [sr_self] at key
    exact key
  · intro _ r hr
    refine PW_blk okW_settleLinked 3 rfl SpX_ok ?_
    simp only [wL0, wLc, true_and, w1, lg0, lgi, lgr, lgl, w80]
    refine b2Y (m1_lt (by omega)) ?_
    refine PW_blk okW_settleLinked 14 rfl SpX_ok ?_
    simp only [wL0, wLc, true_and, w2, lg0, lgi, lgr, lgl, w35, kX43, rX43_5, kX48, nX48, w1, w39, w84, v1024 (show fr < 1024 by omega), c1024 (show fr < 1024 by omega), sr1, hr fr (Nat.le_refl _) (by omega) (rch_fr hn10)]
    exact hk r
  · intro s hs ih hle r hr
    have hs10 : s < 1024 := by omega
    have hX' : XC (sr σ 48 r) 1 S := XC_cong (fun i h1 h2 => sr1n (by omega)) hX
    rw [m1_s]
    refine PW_blk okW_settleLinked 3 rfl SpX_ok ?_
    simp only [wL0, wLc, true_and, w1, lg0, lgi, lgr, lgl, w80]
    refine b2N (nI_nlt hs (by omega)) ?_
    have cont : ∀ x : List Value, x.take 6 = [.ref 43, .int (nI fr), .int (nI a), .int (nI b), .int (nI (2 ^ a ||| 2 ^ b)), .int (nI s)] → ∀ r, (∀ t, s ≤ t → t < 1024 → rch S fr t → r t = encM (lst (lkS S a b) 0 t)) → PW 0 ev mW_settleLinked 114 x [] (sr σ 48 r) K := by
      intro x hx r hr
      refine PW_loc 6 ?_
      rw [hx]
      refine PW_blk okW_settleLinked 13 rfl SpX_ok ?_
      simp only [wL0, wLc, true_and, w7, lg0, lgi, lgr, lgl, ls00, ls0i, ls0r, ls0l, lsi, lsr, lsl, Option.map_some, w70, m1_add]
      exact ih (by omega) r hr
    obtain ⟨t1, t2⟩ := hT s hs10
    refine PW_blk okW_settleLinked 4 rfl SpX_ok ?_
    simp only [wL0, wLc, true_and, w2, lg0, lgi, lgr, lgl, w35, kX43, rX43_1, kX44, nX44, w1, w39, w0, w78, v1024 hs10, c1024 hs10, sr1n (show 44 ≠ 48 by decide)]
    by_cases c : rch S fr s
    rotate_left
    · refine b2Y (t2 c) ?_
      refine cont _ rfl r (fun t h1 h2 h3 => hr t ?_ h2 h3)
      have : t ≠ s := fun e => c (e ▸ h3)
      omega
    obtain ⟨m4, m5, m6⟩ := t1 c
    have hml := mayN_lt S s
    refine b2N (by rw [m4]; exact m1_ne (by omega)) ?_
    have fin : ∀ y x : Int32, x = encM (lst (lkS S a b) 0 s) → PW 0 ev mW_settleLinked 113 [.ref 43, .int (nI fr), .int (nI a), .int (nI b), .int (nI (2 ^ a ||| 2 ^ b)), .int (nI s), .int y] [.int x, .int (nI s), .ref 48] (sr σ 48 r) K := by
      intro y x hx
      subst hx
      refine PW_blk okW_settleLinked 12 rfl SpX_ok ?_
      simp only [wL0, wLc, true_and, w40, w71, kX48, nX48, v1024 hs10, c1024 hs10, si_sr]
      refine cont _ rfl _ (fun t h1 h2 h3 => ?_)
      by_cases e : t = s
      · subst e; exact updS
      · rw [updN e]; exact hr t (by omega) h2 h3
    have keep : lst (lkS S a b) 0 s = lst S 0 s → PW 0 ev mW_settleLinked 65 [.ref 43, .int (nI fr), .int (nI a), .int (nI b), .int (nI (2 ^ a ||| 2 ^ b)), .int (nI s)] [] (sr σ 48 r) K := by
      intro e
      refine PW_blk okW_settleLinked 8 rfl SpX_ok ?_
      simp only [wL0, wLc, true_and, w0, w71]
      refine PW_blk okW_settleLinked 9 rfl SpX_ok ?_
      simp only [wL0, wLc, true_and, w4, ls00, ls0i, ls0r, ls0l, lsi, lsr, lsl, Option.map_some, w2, lg0, lgi, lgr, lgl, w35, kX43, rX43_5, kX48, nX48, w1, w72]
      refine b2Y trivial ?_
      refine PW_blk okW_settleLinked 11 rfl SpX_ok ?_
      simp only [wL0, wLc, true_and, w2, lg0, lgi, lgr, lgl, w35, kX43, rX43_4, kX47, nX47, w1, w39, w71, v1024 hs10, c1024 hs10, sr1n (show 47 ≠ 48 by decide), h47 s hs10 c]
      exact fin _ _ (by rw [e])
    refine PW_blk okW_settleLinked 5 rfl SpX_ok ?_
    simp only [wL0, wLc, true_and, w1, lg0, lgi, lgr, lgl, w16, w73, fa_and]
    have hal : s &&& (2 ^ a ||| 2 ^ b) < 2147483648 := Nat.lt_of_le_of_lt Nat.and_le_left (by omega)
    rw [nI_z hal, and_both]
    by_cases c2 : s.testBit a = false ∧ s.testBit b = false
    rotate_left
    · refine b3N c2 ?_
      refine keep (lk_free hI ha hb10 1024 s (by omega) hs10 ?_)
      refine Classical.byContradiction (fun z => c2 ⟨?_, ?_⟩)
      · cases e : s.testBit a with
        | false => rfl
        | true => exact absurd (Or.inl e) z
      · cases e : s.testBit b with
        | false => rfl
        | true => exact absurd (Or.inr e) z
    refine b3Y c2 ?_
    refine PW_blk okW_settleLinked 6 rfl SpX_ok ?_
    simp only [wL0, wLc, true_and, w2, lg0, lgi, lgr, lgl, w35, kX43, rX43_0, w1, w54_2, q40, q41, q42, q43, q44, Option.toList_some, Option.toList_none, List.cons_append, List.nil_append, xp_C_isOutAt, CH_e hc, w73, xr2 hX']
    by_cases hout : outP S s
    · refine dY (if_pos hout) ?_
      refine keep ?_
      rw [lst_out hnl hs10 ((lk_out s).mpr hout), lst_out hn10 hs10 hout]
    refine dN (if_neg hout) ?_
    have hmd : mayN (lkS S a b) s = dif (mayN S s) (2 ^ a) := lk_both hI ha hb10 hs10 c2.2
    have hdl := dif_le (mayN S s) (2 ^ a)
    have bits : ∀ k, (dif (mayN S s) (2 ^ a)).testBit k = true → k < nv S 3 ∧ s.testBit k = false ∧ (mayN S s).testBit k = true := fun k hb => by
      rw [dif_bit k (by omega), Bool.and_eq_true] at hb
      exact ⟨(mayN_bit.mp hb.1).1, why_bit (mayN_bit.mp hb.1).2, hb.1⟩
    refine PW_blk okW_settleLinked 7 rfl SpX_ok ?_
    simp only [wL0, wLc, true_and, w0, w70]
    refine PW_blk okW_settleLinked 9 rfl SpX_ok ?_
    simp only [wL0, wLc, true_and, w4, ls00, ls0i, ls0r, ls0l, lsi, lsr, lsl, Option.map_some, w2, lg0, lgi, lgr, lgl, w35, kX43, rX43_5, kX48, nX48, w1, w72]
    refine b2N (by decide) ?_
    refine PW_blk okW_settleLinked 10 rfl SpX_ok ?_
    simp only [wL0, wLc, true_and, w2, lg0, lgi, lgr, lgl, w1, w35, kX43, rX43_1, kX44, nX44, w39, w0, w19, w18, w16, rX43_5, kX48, nX48, w54_5, q40, q41, q42, q43, q44, Option.toList_some, Option.toList_none, List.cons_append, List.nil_append, tn0, tn1, w70, v1024 hs10, c1024 hs10, sr1n (show 44 ≠ 48 by decide), m4, nI_sh1 a (by omega), dif_I]
    refine X_leastOn (b := 0) (rest := lst (lkS S a b) 0) hX' hI hs10 (by omega) (by decide) kX48 nX48 (fun k hb => (bits k hb).1) (by rw [sr1n (by decide)]; exact m5) (by rw [sr1n (by decide)]; exact m6) (fun k hb => ?_) (fun k v hb hv => ?_) ?_
    · have hg := or_gt (bits k hb).2.1
      have hl : s ||| 2 ^ k < 2 ^ 10 := or_lt hs10 (by have := (bits k hb).1; omega)
      rw [sr1]
      exact hr _ hg hl (rch_to hn10 (bits k hb).2.2 c)
    · rw [← lk_cost (a := a) (b := b)]
      exact rest_b hIl hs10 (by rw [lk_3]; exact (bits k hb).1) (bits k hb).2.1 hv
    · simp only [wL0, wLc, true_and, w2, lg0, lgi, lgr, lgl, w1, w35, kX43, rX43_1, kX44, nX44, w39, w0, w19, w18, w16, rX43_5, kX48, nX48, w54_5, q40, q41, q42, q43, q44, Option.toList_some, Option.toList_none, List.cons_append, List.nil_append, tn0, tn1, w70]
      refine fin _ _ ?_
      rw [lst_in hnl hs10 (fun z => hout ((lk_out s).mp z)), ← lmU_10 hnl, hmd, lmU_c (fun k => lk_cost 0 k s)]
end LY
