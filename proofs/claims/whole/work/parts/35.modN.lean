/-! sounds: rows that sound as told -/
noncomputable def biU (P : Nat → Prop) : Nat → Nat
  | 0 => 0
  | k + 1 => biU P k ||| cif (P k) (2 ^ k) 0
theorem biU_bit (P : Nat → Prop) : ∀ n k, (biU P n).testBit k = true ↔ k < n ∧ P k
  | 0, k => by simp [biU]
  | n + 1, k => by
    have ih := biU_bit P n k
    unfold biU
    rw [Nat.testBit_or, Bool.or_eq_true, ih]
    by_cases h : P n
    · rw [cif_y h, Nat.testBit_two_pow]
      constructor
      · intro z
        rcases z with z | z
        · exact ⟨by omega, z.2⟩
        · have e : n = k := of_decide_eq_true z
          subst e
          exact ⟨by omega, h⟩
      · intro z
        by_cases e : n = k
        · exact Or.inr (decide_eq_true e)
        · exact Or.inl ⟨by omega, z.2⟩
    · rw [cif_n h, Nat.zero_testBit]
      constructor
      · intro z
        rcases z with z | z
        · exact ⟨by omega, z.2⟩
        · cases z
      · intro z
        by_cases e : n = k
        · subst e; exact absurd z.2 h
        · exact Or.inl ⟨by omega, z.2⟩
theorem biU_lt (P : Nat → Prop) : ∀ n, biU P n < 2 ^ n
  | 0 => by simp [biU]
  | n + 1 => by
    have ih := biU_lt P n
    unfold biU
    refine Nat.or_lt_two_pow (Nat.lt_of_lt_of_le ih (Nat.pow_le_pow_right (by decide) (by omega))) ?_
    by_cases h : P n
    · rw [cif_y h]; exact Nat.pow_lt_pow_right (by decide) (by omega)
    · rw [cif_n h]; exact Nat.two_pow_pos _
def hlP (S : Nat → Int32) (v : Int32) (s k : Nat) : Prop := mayok S k s ∧ nI (soundN S k) = v
noncomputable def hlN (S : Nat → Int32) (v : Int32) (s : Nat) : Nat := biU (hlP S v s) (nv S 3)
/-- may this lock come off here, sounding as told? C: what is told, m of it -/
def okH (S : Nat → Int32) (C : Nat → Int32) (m : Nat) (s k : Nat) : Prop := k < nv S 3 ∧ mayok S k s ∧ pcn (nv S 2) ≤ pcn s ∧ pcn s - pcn (nv S 2) < m ∧ nI (soundN S k) = C (pcn s - pcn (nv S 2))
theorem okH_p {S : Nat → Int32} {C : Nat → Int32} {m : Nat} (hn : nv S 3 ≤ 10) : okp (okH S C m) := fun s k h => ⟨why_bit h.2.1, by have := h.1; omega⟩
noncomputable def hc (S : Nat → Int32) (C : Nat → Int32) (m t : Nat) : Nat := fw (okH S C m) (nv S 2) t t
noncomputable def hcL (S : Nat → Int32) (C : Nat → Int32) (m i t : Nat) : Nat := cif (pcn t = pcn (nv S 2) + i) (hc S C m t) 0
/-- what comes to t over p -/
noncomputable def ctr (S : Nat → Int32) (C : Nat → Int32) (m t p : Nat) : Nat := cif (∃ k, k < 10 ∧ t = p ||| 2 ^ k ∧ okH S C m p k) (hc S C m p) 0
theorem hc_sum {S : Nat → Int32} {C : Nat → Int32} {m t : Nat} : ∀ s, fw (okH S C m) (nv S 2) s t = (if t = nv S 2 then 1 else 0) + suU (ctr S C m t) s
  | 0 => rfl
  | s + 1 => by
    have ih := hc_sum (S := S) (C := C) (m := m) (t := t) s
    show fw (okH S C m) (nv S 2) s t + cif (∃ k, k < 10 ∧ t = s ||| 2 ^ k ∧ okH S C m s k) (fw (okH S C m) (nv S 2) s s) 0 = _
    rw [ih]
    show _ = _ + (suU (ctr S C m t) s + ctr S C m t s)
    unfold ctr hc
    omega
theorem hc_all {S : Nat → Int32} {C : Nat → Int32} {m t T : Nat} (hn : nv S 3 ≤ 10) (ht : t ≠ nv S 2) (hT : 2 ^ nv S 3 ≤ T) (ho : nv S 2 < 2 ^ nv S 3) : hc S C m t = suU (ctr S C m t) T := by
  have h1 := hc_sum (S := S) (C := C) (m := m) (t := t) T
  rw [if_neg ht, Nat.zero_add] at h1
  rw [← h1]
  unfold hc
  by_cases h : t ≤ T
  · exact (fw_stab (okH_p hn) (Nat.le_refl t) h).symm
  · rw [fw_last (okH_p hn) (n := nv S 3) (fun s k h => h.1) ho (s := t) (by omega), fw_last (okH_p hn) (n := nv S 3) (fun s k h => h.1) ho (s := T) hT]
theorem suU_mono {f : Nat → Nat} {a b : Nat} (h : a ≤ b) : suU f a ≤ suU f b := by
  induction b with
  | zero => rw [show a = 0 by omega]; exact Nat.le_refl _
  | succ b ih =>
    by_cases e : a = b + 1
    · rw [e]; exact Nat.le_refl _
    · exact Nat.le_trans (ih (by omega)) (Nat.le_add_right _ _)
/-- the table in the midst of round i: the sets from s on have passed theirs on -/
noncomputable def rnd (S : Nat → Int32) (C : Nat → Int32) (m i T s t : Nat) : Nat := hcL S C m i t + cif (pcn t = pcn (nv S 2) + i + 1) (suU (ctr S C m t) T - suU (ctr S C m t) s) 0
theorem rnd_T {S : Nat → Int32} {C : Nat → Int32} {m i T : Nat} : rnd S C m i T T = hcL S C m i := by
  funext t
  unfold rnd
  rw [Nat.sub_self]
  by_cases h : pcn t = pcn (nv S 2) + i + 1
  · rw [cif_y h]; rfl
  · rw [cif_n h]; rfl
theorem ctr_lv {S : Nat → Int32} {C : Nat → Int32} {m t p : Nat} (hn : nv S 3 ≤ 10) (h : ctr S C m t p ≠ 0) : pcn t = pcn p + 1 ∧ p < t := by
  unfold ctr at h
  by_cases c : ∃ k, k < 10 ∧ t = p ||| 2 ^ k ∧ okH S C m p k
  · obtain ⟨k, hk, e, ho⟩ := c
    have hb := (okH_p hn p k ho).1
    rw [e]
    exact ⟨pcn_or hk hb, or_gt hb⟩
  · rw [cif_n c] at h; exact absurd rfl h
theorem rnd_skip {S : Nat → Int32} {C : Nat → Int32} {m i T s : Nat} (hn : nv S 3 ≤ 10) (h : pcn s ≠ pcn (nv S 2) + i ∨ hc S C m s = 0) : rnd S C m i T s = rnd S C m i T (s + 1) := by
  funext t
  unfold rnd
  congr 1
  by_cases c : pcn t = pcn (nv S 2) + i + 1
  · rw [cif_y c, cif_y c]
    have e : ctr S C m t s = 0 := by
      rcases h with h | h
      · rcases Nat.eq_zero_or_pos (ctr S C m t s) with z | z
        · exact z
        · have := (ctr_lv hn (show ctr S C m t s ≠ 0 by omega)).1; omega
      · unfold ctr
        rw [h]
        by_cases z : ∃ k, k < 10 ∧ t = s ||| 2 ^ k ∧ okH S C m s k
        · rw [cif_y z]
        · rw [cif_n z]
    show _ = suU (ctr S C m t) T - (suU (ctr S C m t) s + ctr S C m t s)
    rw [e, Nat.add_zero]
  · rw [cif_n c, cif_n c]
theorem rnd_step {S : Nat → Int32} {C : Nat → Int32} {m i T s : Nat} (hn : nv S 3 ≤ 10) (hs : s < T) (h : pcn s = pcn (nv S 2) + i) : fwK (okH S C m) (rnd S C m i T (s + 1)) s 10 = rnd S C m i T s := by
  have e1 : rnd S C m i T (s + 1) s = hc S C m s := by
    unfold rnd hcL
    rw [cif_y h, cif_n (by omega)]
    rfl
  funext t
  unfold fwK
  rw [e1]
  unfold rnd
  rw [Nat.add_assoc]
  congr 1
  have hm := suU_mono (f := ctr S C m t) (a := s + 1) (b := T) hs
  have hs1 : suU (ctr S C m t) (s + 1) = suU (ctr S C m t) s + ctr S C m t s := rfl
  by_cases c : pcn t = pcn (nv S 2) + i + 1
  · rw [cif_y c, cif_y c, show cif (∃ k, k < 10 ∧ t = s ||| 2 ^ k ∧ okH S C m s k) (hc S C m s) 0 = ctr S C m t s from rfl]
    omega
  · rw [cif_n c, cif_n c, cif_n]
    intro ⟨k, hk, e, ho⟩
    have hb := (okH_p hn s k ho).1
    have := pcn_or hk hb
    rw [← e] at this
    omega
theorem rnd_0 {S : Nat → Int32} {C : Nat → Int32} {m i t : Nat} (hn : nv S 3 ≤ 10) (ho : nv S 2 < 2 ^ nv S 3) : (if pcn t = pcn (nv S 2) + i then 0 else rnd S C m i (2 ^ nv S 3) 0 t) = hcL S C m (i + 1) t := by
  unfold rnd hcL
  by_cases c : pcn t = pcn (nv S 2) + i
  · rw [if_pos c, cif_n (by omega)]
  · rw [if_neg c, cif_n c]
    by_cases c2 : pcn t = pcn (nv S 2) + i + 1
    · rw [cif_y c2, cif_y (by omega), hc_all hn (fun e => by rw [e] at c2; omega) (Nat.le_refl _) ho]
      show 0 + (_ - 0) = _
      omega
    · rw [cif_n c2, cif_n (by omega)]
def ShI (W N : Nat → Int32) : Prop := ∀ i, i < 4 → (W i = 0 ∨ W i = 8 ∨ W i = 16 ∨ W i = 32) ∧ rg N i 40
def m8 (n : Nat) : Nat := if n < 8 then n else 8
section MN
variable {ev : EV} {σ : St2} {K : PO}
theorem R_heardLocks {v : Int32} {s : Nat} (hI : Inv (σ.1 1)) (hs : s < 1024) (hk : K (some (.int (nI (hlN (σ.1 1) v s)))) σ) : Rn 1 ev mM_heardLocks [.ref 0, .int v, .int (nI s)] σ K := by
  have hn := hI.1.2
  have hT := p2le _ hn
  refine Rn_V (by decide) rc6 rfl rfl ?_
  refine PW_blk okM_heardLocks 0 rfl SpM_ok ?_
  simp only [wL0, wLc, true_and, w2, lg0, lgi, lgr, lgl, w1, w54_2, q40, q41, q42, q43, q44, Option.toList_some, Option.toList_none, List.cons_append, List.nil_append, w4, ls00, ls0i, ls0r, ls0l, lsi, lsr, lsl, Option.map_some, w0, w71]
  refine R_mayBy hI hs ?_
  simp only [wL0, wLc, true_and, w2, lg0, lgi, lgr, lgl, w1, w54_2, q40, q41, q42, q43, q44, Option.toList_some, Option.toList_none, List.cons_append, List.nil_append, w4, ls00, ls0i, ls0r, ls0l, lsi, lsr, lsl, Option.map_some, w0, w71]
  have hml := mayN_lt (σ.1 1) s
  have key := lp_up (n := nv (σ.1 1) 3) (P := fun k => PW 1 ev mM_heardLocks 12 [.ref 0, .int v, .int (nI s), .int (nI (mayN (σ.1 1) s)), .int (nI (biU (hlP (σ.1 1) v s) k)), .int (nI k)] [] σ K) ?_ ?_ 0 (Nat.zero_le _)
  · exact key
  · refine PW_blk okM_heardLocks 1 rfl SpM_ok ?_
    simp only [wL0, wLc, true_and, w1, lg0, lgi, lgr, lgl, w2, w35, kM0, rM0, kM1, nM1, w0, w39, tn3, vi3_120, w81, hI.1.1]
    refine b3N (nI_nlt (Nat.le_refl _) (by omega)) ?_
    refine PW_blk okM_heardLocks 7 rfl SpM_ok ?_
    simp only [wL0, wLc, true_and, w1, lg0, lgi, lgr, lgl, w84]
    exact hk
  · intro k hk2 ih
    have e : biU (hlP (σ.1 1) v s) (k + 1) = biU (hlP (σ.1 1) v s) k ||| cif (hlP (σ.1 1) v s k) (2 ^ k) 0 := rfl
    rw [e] at ih
    have no : ¬ hlP (σ.1 1) v s k → PW 1 ev mM_heardLocks 51 [.ref 0, .int v, .int (nI s), .int (nI (mayN (σ.1 1) s)), .int (nI (biU (hlP (σ.1 1) v s) k)), .int (nI k)] [.int (nI (biU (hlP (σ.1 1) v s) k))] σ K := by
      intro c
      rw [cif_n c] at ih
      refine PW_blk okM_heardLocks 5 rfl SpM_ok ?_
      simp only [wL0, wLc, true_and, w0, w71]
      refine PW_blk okM_heardLocks 6 rfl SpM_ok ?_
      simp only [wL0, wLc, true_and, w17, w4, ls00, ls0i, ls0r, ls0l, lsi, lsr, lsl, Option.map_some, w7, lg0, lgi, lgr, lgl, w70]
      rw [show (1 : Int32) = nI 1 from rfl, nI_add, show (0 : Int32) = nI 0 from rfl, fa_or]
      exact ih
    refine PW_blk okM_heardLocks 1 rfl SpM_ok ?_
    simp only [wL0, wLc, true_and, w1, lg0, lgi, lgr, lgl, w2, w35, kM0, rM0, kM1, nM1, w0, w39, tn3, vi3_120, w81, hI.1.1]
    refine b3Y (nI_lt hk2 (by omega)) ?_
    refine PW_blk okM_heardLocks 2 rfl SpM_ok ?_
    simp only [wL0, wLc, true_and, w1, lg0, lgi, lgr, lgl, w55_2, q40, q41, q42, q43, q44, Option.toList_some, Option.toList_none, List.cons_append, List.nil_append, sp_isIn, w72]
    rw [isInF_n (by omega) (by omega)]
    by_cases hb : (mayN (σ.1 1) s).testBit k = true
    rotate_left
    · refine bN (if_neg hb) ?_
      exact no (fun z => hb (mayN_bit.mpr ⟨hk2, z.1⟩))
    refine bY (if_pos hb) ?_
    refine PW_blk okM_heardLocks 3 rfl SpM_ok ?_
    simp only [wL0, wLc, true_and, w2, lg0, lgi, lgr, lgl, w1, w54_2, q40, q41, q42, q43, q44, Option.toList_some, Option.toList_none, List.cons_append, List.nil_append, w79]
    refine R_soundsOf hI hk2 ?_
    simp only [wL0, wLc, true_and, w2, lg0, lgi, lgr, lgl, w1, w54_2, q40, q41, q42, q43, q44, Option.toList_some, Option.toList_none, List.cons_append, List.nil_append, w79]
    by_cases c : nI (soundN (σ.1 1) k) = v
    · refine b3Y c ?_
      rw [cif_y ⟨(mayN_bit.mp hb).2, c⟩] at ih
      refine PW_blk okM_heardLocks 4 rfl SpM_ok ?_
      simp only [wL0, wLc, true_and, w0, w1, lg0, lgi, lgr, lgl, w19, w70]
      refine PW_blk okM_heardLocks 6 rfl SpM_ok ?_
      simp only [wL0, wLc, true_and, w17, w4, ls00, ls0i, ls0r, ls0l, lsi, lsr, lsl, Option.map_some, w7, lg0, lgi, lgr, lgl, w70]
      rw [nI_sh1 k (by omega), show (1 : Int32) = nI 1 from rfl, nI_add, fa_or]
      exact ih
    · refine b3N c ?_
      exact no (fun z => c z.2)
theorem R_countsHeard {j : Nat} (hI : Inv (σ.1 1)) (hj : j < 4) (hN : rg (σ.1 14) j 40) (hk : ∀ r, (∀ t, t < 1024 → r t = nI (hcL (σ.1 1) (fun i => σ.1 15 (40 * j + i)) (m8 (nv (σ.1 14) j)) (m8 (nv (σ.1 14) j)) t)) → K none (sr σ 7 r)) : Rn 1 ev mM_countsHeard [.ref 0, .int (nI j)] σ K := by
  have hG := hI.2.1.1
  have hn := hI.1.2
  have hT := p2le _ hn
  have hoT := hI.2.1.2
  have hvj : vp_in (nI j) 4 := vp_in_nI hj (by decide)
  have clj : (nI j).toNatClampNeg = j := nI_clamp (by omega)
  have hm8 : m8 (nv (σ.1 14) j) ≤ 8 := by unfold m8; split <;> omega
  have hN2 := hN.2
  have main : PW 1 ev mM_countsHeard 22 [.ref 0, .int (nI j)] [.int (nI (m8 (nv (σ.1 14) j)))] σ K := by
    generalize hm : m8 (nv (σ.1 14) j) = m at *
    generalize hC : (fun i => σ.1 15 (40 * j + i)) = C at *
    have hop := okH_p (S := σ.1 1) (C := C) (m := m) hn
    have hsmall : ∀ t, t < 1024 → hc (σ.1 1) C m t ≤ 3628800 := fun t ht => fw_small hop (by omega) ht
    have hlv : ∀ i t, i = 0 → (if t = nv (σ.1 1) 2 then 1 else 0) = hcL (σ.1 1) C m i t := by
      intro i t hi
      subst hi
      unfold hcL hc
      by_cases e : t = nv (σ.1 1) 2
      · subst e
        rw [if_pos rfl, cif_y (show pcn (nv (σ.1 1) 2) = pcn (nv (σ.1 1) 2) + 0 from rfl), fw_first hop (Nat.le_refl _)]
        exact (if_pos rfl).symm
      · rw [if_neg e]
        by_cases c : pcn t = pcn (nv (σ.1 1) 2) + 0
        · rw [cif_y c]
          rcases Nat.eq_zero_or_pos (fw (okH (σ.1 1) C m) (nv (σ.1 1) 2) t t) with z | z
          · exact z.symm
          · have hp : ∀ t, fw (okH (σ.1 1) C m) (nv (σ.1 1) 2) t t ≠ 0 → t = nv (σ.1 1) 2 ∨ pcn (nv (σ.1 1) 2) < pcn t := by
              intro t ht
              refine fw_ind hop (P := fun t => t = nv (σ.1 1) 2 ∨ pcn (nv (σ.1 1) 2) < pcn t) (Or.inl rfl) (fun p k hk _ hp => Or.inr ?_) t t (Nat.le_refl _) ht
              have := pcn_or (hop p k hk).2 (hop p k hk).1
              rcases hp with hp | hp
              · rw [hp] at this ⊢; omega
              · omega
            rcases hp t (by omega) with q | q
            · exact absurd q e
            · omega
        · rw [cif_n c]
    refine PW_blk okM_countsHeard 3 rfl SpM_ok ?_
    simp only [wL0, wLc, true_and, w4, ls00, ls0i, ls0r, ls0l, lsi, lsr, lsl, Option.map_some, w0, w71]
    have k1 := lp_up (n := 1024) (P := fun i => ∀ r, (∀ t, t < i → r t = nI (hcL (σ.1 1) C m 0 t)) → PW 1 ev mM_countsHeard 25 [.ref 0, .int (nI j), .int (nI m), .int (nI i)] [] (sr σ 7 r) K) ?_ ?_ 0 (by decide) (σ.1 7) (fun t h => absurd h (Nat.not_lt_zero t))
    · rw [sr_self] at k1
      exact k1
    · intro r hr
      refine PW_blk okM_countsHeard 4 rfl SpM_ok ?_
      simp only [wL0, wLc, true_and, w1, lg0, lgi, lgr, lgl, w0, w81]
      refine b3N (by decide) ?_
      refine PW_blk okM_countsHeard 9 rfl SpM_ok ?_
      simp only [wL0, wLc, true_and, w2, lg0, lgi, lgr, lgl, w35, kM0, rM0, kM1, nM1, w0, w39, w55_1, q40, q41, q42, q43, q44, Option.toList_some, Option.toList_none, List.cons_append, List.nil_append, w4, ls00, ls0i, ls0r, ls0l, lsi, lsr, lsl, Option.map_some, tn0, vi0_120, tn2, vi2_120, w71, n7_1, hG.1]
      refine R_bits (by omega) ?_
      simp only [wL0, wLc, true_and, w2, lg0, lgi, lgr, lgl, w35, kM0, rM0, kM1, nM1, w0, w39, w55_1, q40, q41, q42, q43, q44, Option.toList_some, Option.toList_none, List.cons_append, List.nil_append, w4, ls00, ls0i, ls0r, ls0l, lsi, lsr, lsl, Option.map_some, tn0, vi0_120, tn2, vi2_120, w71]
      have k2 := lp_up (n := m) (P := fun i => ∀ r, (∀ t, t < 1024 → r t = nI (hcL (σ.1 1) C m i t)) → PW 1 ev mM_countsHeard 72 [.ref 0, .int (nI j), .int (nI m), .int (nI (pcn (nv (σ.1 1) 2))), .int (nI i)] [] (sr σ 7 r) K) ?_ ?_ 0 (Nat.zero_le _) r hr
      · exact k2
      · intro r hr
        refine PW_blk okM_countsHeard 10 rfl SpM_ok ?_
        simp only [wL0, wLc, true_and, w1, lg0, lgi, lgr, lgl, w81]
        refine b3N (nI_nlt (Nat.le_refl _) (by omega)) ?_
        refine PW_blk okM_countsHeard 31 rfl SpM_ok ?_
        simp only [wL0, w87]
        exact hk r hr
      · intro i hi ih r hr
        have hpo := pcn_le (nv (σ.1 1) 2)
        refine PW_blk okM_countsHeard 10 rfl SpM_ok ?_
        simp only [wL0, wLc, true_and, w1, lg0, lgi, lgr, lgl, w81]
        refine b3Y (nI_lt hi (by omega)) ?_
        refine PW_blk okM_countsHeard 11 rfl SpM_ok ?_
        simp only [wL0, wLc, true_and, w2, lg0, lgi, lgr, lgl, w54_1, q40, q41, q42, q43, q44, Option.toList_some, Option.toList_none, List.cons_append, List.nil_append, sp_allLocks, w4, ls00, ls0i, ls0r, ls0l, lsi, lsr, lsl, Option.map_some, w71, n7_1, hI.1.1]
        rw [alF_n _ (by omega)]
        have k3 := lp_dn (a := 0) (P := fun s => s ≤ 2 ^ nv (σ.1 1) 3 → ∀ r, (∀ t, t < 1024 → r t = nI (rnd (σ.1 1) C m i (2 ^ nv (σ.1 1) 3) s t)) → PW 1 ev mM_countsHeard 84 [.ref 0, .int (nI j), .int (nI m), .int (nI (pcn (nv (σ.1 1) 2))), .int (nI i), .int (nI s - 1)] [] (sr σ 7 r) K) ?_ ?_ (2 ^ nv (σ.1 1) 3) (Nat.zero_le _) (Nat.le_refl _) r (fun t ht => by rw [rnd_T]; exact hr t ht)
        · rw [← m1_pos (n := 2 ^ nv (σ.1 1) 3) (Nat.two_pow_pos _)]
          exact k3
        · intro _ r hr
          refine PW_blk okM_countsHeard 12 rfl SpM_ok ?_
          simp only [wL0, wLc, true_and, w1, lg0, lgi, lgr, lgl, w74]
          refine b2Y (by decide) ?_
          refine PW_blk okM_countsHeard 24 rfl SpM_ok ?_
          simp only [wL0, wLc, true_and, w0, w4, ls00, ls0i, ls0r, ls0l, lsi, lsr, lsl, Option.map_some, w71]
          have k4 := lp_up (n := 1024) (P := fun q => ∀ r, (∀ t, t < 1024 → r t = nI (if t < q then hcL (σ.1 1) C m (i + 1) t else rnd (σ.1 1) C m i (2 ^ nv (σ.1 1) 3) 0 t)) → PW 1 ev mM_countsHeard 200 [.ref 0, .int (nI j), .int (nI m), .int (nI (pcn (nv (σ.1 1) 2))), .int (nI i), .int (nI q)] [] (sr σ 7 r) K) ?_ ?_ 0 (by decide) r (fun t ht => by rw [if_neg (Nat.not_lt_zero t)]; exact hr t ht)
          · exact k4
          · intro r hr
            refine PW_blk okM_countsHeard 25 rfl SpM_ok ?_
            simp only [wL0, wLc, true_and, w1, lg0, lgi, lgr, lgl, w0, w81]
            refine b3N (by decide) ?_
            refine PW_blk okM_countsHeard 30 rfl SpM_ok ?_
            simp only [wL0, wLc, true_and, w7, lg0, lgi, lgr, lgl, ls00, ls0i, ls0r, ls0l, lsi, lsr, lsl, Option.map_some, w70]
            refine PW_loc 5 ?_
            rw [show (1 : Int32) = nI 1 from rfl, nI_add]
            exact ih r (fun t ht => by rw [hr t ht, if_pos ht])
          · intro q hq ih4 r hr
            have hv : vp_in (nI q) 1024 := vp_in_nI hq (by decide)
            have cl : (nI q).toNatClampNeg = q := nI_clamp (by omega)
            have hpq := pcn_le q
            refine PW_blk okM_countsHeard 25 rfl SpM_ok ?_
            simp only [wL0, wLc, true_and, w1, lg0, lgi, lgr, lgl, w0, w81]
            refine b3Y (nI_lt hq (by decide)) ?_
            refine PW_blk okM_countsHeard 26 rfl SpM_ok ?_
            simp only [wL0, wLc, true_and, w2, lg0, lgi, lgr, lgl, w35, kM0, rM8, kM7, nM7, w1, w55_1, q40, q41, q42, q43, q44, Option.toList_some, Option.toList_none, List.cons_append, List.nil_append, w11, w79]
            refine R_bits (by omega) ?_
            simp only [wL0, wLc, true_and, w2, lg0, lgi, lgr, lgl, w35, kM0, rM8, kM7, nM7, w1, w55_1, q40, q41, q42, q43, q44, Option.toList_some, Option.toList_none, List.cons_append, List.nil_append, w11, w79]
            rw [nI_add, nI_eq_iff (by omega) (by omega)]
            have last : ∀ x, x = nI (if pcn q = pcn (nv (σ.1 1) 2) + i then 0 else rnd (σ.1 1) C m i (2 ^ nv (σ.1 1) 3) 0 q) → PW 1 ev mM_countsHeard 237 [.ref 0, .int (nI j), .int (nI m), .int (nI (pcn (nv (σ.1 1) 2))), .int (nI i), .int (nI q)] [.int x, .int (nI q), .ref 7] (sr σ 7 r) K := by
              intro x hx
              rw [rnd_0 hn hoT] at hx
              refine PW_blk okM_countsHeard 29 rfl SpM_ok ?_
              simp only [wL0, wLc, true_and, w40, w7, lg0, lgi, lgr, lgl, ls00, ls0i, ls0r, ls0l, lsi, lsr, lsl, Option.map_some, w70, si_sr, kM7, nM7, eq_true hv, cl]
              rw [show (1 : Int32) = nI 1 from rfl, nI_add]
              refine ih4 _ (fun t ht => ?_)
              by_cases e : t = q
              · subst e; rw [updS, if_pos (by omega)]; exact hx
              · rw [updN e, hr t ht]
                by_cases c : t < q
                · rw [if_pos c, if_pos (by omega)]
                · rw [if_neg c, if_neg (by omega)]
            by_cases c : pcn q = pcn (nv (σ.1 1) 2) + i
            · refine b3Y c ?_
              refine PW_blk okM_countsHeard 27 rfl SpM_ok ?_
              simp only [wL0, wLc, true_and, w0, w70]
              exact last 0 (by rw [if_pos c]; rfl)
            · refine b3N c ?_
              refine PW_blk okM_countsHeard 28 rfl SpM_ok ?_
              simp only [wL0, wLc, true_and, w2, lg0, lgi, lgr, lgl, w35, kM0, rM8, kM7, nM7, w1, w39, w71, sr1, eq_true hv, cl]
              exact last _ (by rw [if_neg c, hr q hq, if_neg (Nat.lt_irrefl q)])
        · intro s hs ih3 hle r hr
          have hs10 : s < 1024 := by omega
          have hv : vp_in (nI s) 1024 := vp_in_nI hs10 (by decide)
          have cl : (nI s).toNatClampNeg = s := nI_clamp (by omega)
          have hpq := pcn_le s
          have hsm := hsmall s hs10
          rw [m1_s]
          refine PW_blk okM_countsHeard 12 rfl SpM_ok ?_
          simp only [wL0, wLc, true_and, w1, lg0, lgi, lgr, lgl, w74]
          refine b2N (nI_nlt (a := s) (b := 0) (Nat.zero_le _) (by omega)) ?_
          refine PW_blk okM_countsHeard 13 rfl SpM_ok ?_
          simp only [wL0, wLc, true_and, w2, lg0, lgi, lgr, lgl, w35, kM0, rM8, kM7, nM7, w1, w39, w72, sr1, eq_true hv, cl, hr s hs10]
          have fin : ∀ M, M < 1024 → (∀ k, k < nv (σ.1 1) 3 → ((M.testBit k = true ↔ okH (σ.1 1) C m s k) ∧ pcn s = pcn (nv (σ.1 1) 2) + i) ∨ (M.testBit k = false ∧ (pcn s ≠ pcn (nv (σ.1 1) 2) + i ∨ hc (σ.1 1) C m s = 0))) → PW 1 ev mM_countsHeard 133 [.ref 0, .int (nI j), .int (nI m), .int (nI (pcn (nv (σ.1 1) 2))), .int (nI i), .int (nI s)] [.int (nI M)] (sr σ 7 r) K := by
            intro M hM10 hM
            have nxt : ∀ r, (∀ t, t < 1024 → r t = nI (rnd (σ.1 1) C m i (2 ^ nv (σ.1 1) 3) s t)) → PW 1 ev mM_countsHeard 191 [.ref 0, .int (nI j), .int (nI m), .int (nI (pcn (nv (σ.1 1) 2))), .int (nI i), .int (nI s)] [] (sr σ 7 r) K := by
              intro r hr
              refine PW_blk okM_countsHeard 23 rfl SpM_ok ?_
              simp only [wL0, wLc, true_and, w7, lg0, lgi, lgr, lgl, ls00, ls0i, ls0r, ls0l, lsi, lsr, lsl, Option.map_some, w70, m1_add]
              exact ih3 (by omega) r hr
            refine PW_blk okM_countsHeard 17 rfl SpM_ok ?_
            simp only [wL0, wLc, true_and, w4, ls00, ls0i, ls0r, ls0l, lsi, lsr, lsl, Option.map_some, w0, w71]
            by_cases hlev : pcn s = pcn (nv (σ.1 1) 2) + i ∧ hc (σ.1 1) C m s ≠ 0
            · have hM2 : ∀ k, k < nv (σ.1 1) 3 → (M.testBit k = true ↔ okH (σ.1 1) C m s k) := by
                intro k hk
                rcases hM k hk with h | h
                · exact h.1
                · rcases h.2 with z | z
                  · exact absurd hlev.1 z
                  · exact absurd z hlev.2
              have e1 : rnd (σ.1 1) C m i (2 ^ nv (σ.1 1) 3) (s + 1) s = hc (σ.1 1) C m s := by
                unfold rnd hcL
                rw [cif_y hlev.1, cif_n (by omega)]
                rfl
              have k5 := lp_up (n := nv (σ.1 1) 3) (P := fun k => ∀ r, (∀ t, t < 1024 → r t = nI (fwK (okH (σ.1 1) C m) (rnd (σ.1 1) C m i (2 ^ nv (σ.1 1) 3) (s + 1)) s k t)) → PW 1 ev mM_countsHeard 138 [.ref 0, .int (nI j), .int (nI m), .int (nI (pcn (nv (σ.1 1) 2))), .int (nI i), .int (nI s), .int (nI M), .int (nI k)] [] (sr σ 7 r) K) ?_ ?_ 0 (Nat.zero_le _) r (fun t ht => by rw [fwK_0]; exact hr t ht)
              · exact k5
              · intro r hr
                refine PW_blk okM_countsHeard 18 rfl SpM_ok ?_
                simp only [wL0, wLc, true_and, w1, lg0, lgi, lgr, lgl, w2, w35, kM0, rM0, kM1, nM1, w0, w39, tn3, vi3_120, w81, n7_1, hI.1.1]
                refine b3N (nI_nlt (Nat.le_refl _) (by omega)) ?_
                refine PW_loc 6 ?_
                refine nxt r (fun t ht => ?_)
                rw [hr t ht, fwK_ext (ok := okH (σ.1 1) C m) (m := nv (σ.1 1) 3) (m' := 10) (fun k hk => ⟨fun _ => (hop s k hk).2, fun _ => hk.1⟩), rnd_step hn (by omega) hlev.1]
              · intro k hk ih5 r hr
                have hk10 : k < 10 := by omega
                have htl : s ||| 2 ^ k < 1024 := or_lt (n := 10) hs10 hk10
                have hv2 : vp_in (nI (s ||| 2 ^ k)) 1024 := vp_in_nI htl (by decide)
                have cl2 : (nI (s ||| 2 ^ k)).toNatClampNeg = s ||| 2 ^ k := nI_clamp (by omega)
                refine PW_blk okM_countsHeard 18 rfl SpM_ok ?_
                simp only [wL0, wLc, true_and, w1, lg0, lgi, lgr, lgl, w2, w35, kM0, rM0, kM1, nM1, w0, w39, tn3, vi3_120, w81, n7_1, hI.1.1]
                refine b3Y (nI_lt hk (by omega)) ?_
                refine PW_blk okM_countsHeard 19 rfl SpM_ok ?_
                simp only [wL0, wLc, true_and, w2, lg0, lgi, lgr, lgl, w35, kM0, rM8, kM7, nM7, w1, w0, w19, w17, w10i, w10r, w39, w55_2, q40, q41, q42, q43, q44, Option.toList_some, Option.toList_none, List.cons_append, List.nil_append, sp_isIn, tn1, w72, sr1, nI_sh1 k (by omega), fa_or, eq_true hv2, cl2]
                rw [isInF_n (by omega) (by omega)]
                have last : PW 1 ev mM_countsHeard 183 [.ref 0, .int (nI j), .int (nI m), .int (nI (pcn (nv (σ.1 1) 2))), .int (nI i), .int (nI s), .int (nI M), .int (nI k)] [.int (nI (if M.testBit k then hc (σ.1 1) C m s else 0)), .int (r (s ||| 2 ^ k)), .int (nI (s ||| 2 ^ k)), .ref 7] (sr σ 7 r) K := by
                  refine PW_blk okM_countsHeard 22 rfl SpM_ok ?_
                  simp only [wL0, wLc, true_and, w11, w40, w7, lg0, lgi, lgr, lgl, ls00, ls0i, ls0r, ls0l, lsi, lsr, lsl, Option.map_some, w70, si_sr, kM7, nM7, eq_true hv2, cl2]
                  rw [show (1 : Int32) = nI 1 from rfl, nI_add]
                  refine ih5 _ (fun t ht => ?_)
                  rw [fwK_s hop, e1]
                  by_cases e : t = s ||| 2 ^ k
                  · subst e
                    rw [updS, hr _ ht, nI_add]
                    congr 2
                    by_cases hb : M.testBit k = true
                    · rw [if_pos hb, cif_y ⟨(hM2 k hk).mp hb, rfl⟩]
                    · rw [if_neg hb, cif_n (fun z => hb ((hM2 k hk).mpr z.1))]
                  · rw [updN e, hr t ht, cif_n (fun z => e z.2)]
                    rfl
                by_cases hb : M.testBit k = true
                · rw [if_pos hb] at last ⊢
                  refine bY rfl ?_
                  refine PW_blk okM_countsHeard 20 rfl SpM_ok ?_
                  simp only [wL0, wLc, true_and, w2, lg0, lgi, lgr, lgl, w35, kM0, rM8, kM7, nM7, w1, w39, w70, sr1, eq_true hv, cl, hr s hs10]
                  rw [fwK_low hop (Nat.le_refl _), e1]
                  exact last
                · rw [if_neg hb] at last ⊢
                  refine bN rfl ?_
                  refine PW_blk okM_countsHeard 21 rfl SpM_ok ?_
                  simp only [wL0, wLc, true_and, w0, w71]
                  exact last
            · have hsk : pcn s ≠ pcn (nv (σ.1 1) 2) + i ∨ hc (σ.1 1) C m s = 0 := by
                by_cases z : pcn s = pcn (nv (σ.1 1) 2) + i
                · exact Or.inr (Classical.byContradiction (fun q => hlev ⟨z, q⟩))
                · exact Or.inl z
              have esk := rnd_skip (T := 2 ^ nv (σ.1 1) 3) hn hsk
              rw [← esk] at hr
              have ev0 : ∀ k, k < nv (σ.1 1) 3 → M.testBit k = true → r s = nI 0 := by
                intro k hk hb
                rw [hr s hs10]
                rcases hM k hk with h | h
                · have ez : hc (σ.1 1) C m s = 0 := by
                    rcases hsk with z | z
                    · exact absurd h.2 z
                    · exact z
                  unfold rnd hcL
                  rw [cif_y h.2, cif_n (by omega), ez]
                · rw [hb] at h; exact absurd h.1 (by decide)
              have k5 := lp_up (n := nv (σ.1 1) 3) (P := fun k => ∀ r', (∀ t, t < 1024 → r' t = r t) → PW 1 ev mM_countsHeard 138 [.ref 0, .int (nI j), .int (nI m), .int (nI (pcn (nv (σ.1 1) 2))), .int (nI i), .int (nI s), .int (nI M), .int (nI k)] [] (sr σ 7 r') K) ?_ ?_ 0 (Nat.zero_le _) r (fun t ht => rfl)
              · exact k5
              · intro r' hr'
                refine PW_blk okM_countsHeard 18 rfl SpM_ok ?_
                simp only [wL0, wLc, true_and, w1, lg0, lgi, lgr, lgl, w2, w35, kM0, rM0, kM1, nM1, w0, w39, tn3, vi3_120, w81, n7_1, hI.1.1]
                refine b3N (nI_nlt (Nat.le_refl _) (by omega)) ?_
                refine PW_loc 6 ?_
                exact nxt r' (fun t ht => by rw [hr' t ht]; exact hr t ht)
              · intro k hk ih5 r' hr'
                have hk10 : k < 10 := by omega
                have htl : s ||| 2 ^ k < 1024 := or_lt (n := 10) hs10 hk10
                have hv2 : vp_in (nI (s ||| 2 ^ k)) 1024 := vp_in_nI htl (by decide)
                have cl2 : (nI (s ||| 2 ^ k)).toNatClampNeg = s ||| 2 ^ k := nI_clamp (by omega)
                refine PW_blk okM_countsHeard 18 rfl SpM_ok ?_
                simp only [wL0, wLc, true_and, w1, lg0, lgi, lgr, lgl, w2, w35, kM0, rM0, kM1, nM1, w0, w39, tn3, vi3_120, w81, n7_1, hI.1.1]
                refine b3Y (nI_lt hk (by omega)) ?_
                refine PW_blk okM_countsHeard 19 rfl SpM_ok ?_
                simp only [wL0, wLc, true_and, w2, lg0, lgi, lgr, lgl, w35, kM0, rM8, kM7, nM7, w1, w0, w19, w17, w10i, w10r, w39, w55_2, q40, q41, q42, q43, q44, Option.toList_some, Option.toList_none, List.cons_append, List.nil_append, sp_isIn, tn1, w72, sr1, nI_sh1 k (by omega), fa_or, eq_true hv2, cl2]
                rw [isInF_n (by omega) (by omega)]
                have last : PW 1 ev mM_countsHeard 183 [.ref 0, .int (nI j), .int (nI m), .int (nI (pcn (nv (σ.1 1) 2))), .int (nI i), .int (nI s), .int (nI M), .int (nI k)] [.int (nI 0), .int (r' (s ||| 2 ^ k)), .int (nI (s ||| 2 ^ k)), .ref 7] (sr σ 7 r') K := by
                  refine PW_blk okM_countsHeard 22 rfl SpM_ok ?_
                  simp only [wL0, wLc, true_and, w11, w40, w7, lg0, lgi, lgr, lgl, ls00, ls0i, ls0r, ls0l, lsi, lsr, lsl, Option.map_some, w70, si_sr, kM7, nM7, eq_true hv2, cl2]
                  rw [show (1 : Int32) = nI 1 from rfl, nI_add]
                  refine ih5 _ (fun t ht => ?_)
                  by_cases e : t = s ||| 2 ^ k
                  · subst e
                    rw [updS, hr' _ ht, hr _ ht, nI_add]
                    rfl
                  · rw [updN e, hr' t ht]
                by_cases hb : M.testBit k = true
                · rw [if_pos hb]
                  refine bY rfl ?_
                  have e0 := ev0 k hk hb
                  rw [← hr' s hs10] at e0
                  refine PW_blk okM_countsHeard 20 rfl SpM_ok ?_
                  simp only [wL0, wLc, true_and, w2, lg0, lgi, lgr, lgl, w35, kM0, rM8, kM7, nM7, w1, w39, w70, sr1, eq_true hv, cl, e0]
                  exact last
                · rw [if_neg hb]
                  refine bN rfl ?_
                  refine PW_blk okM_countsHeard 21 rfl SpM_ok ?_
                  simp only [wL0, wLc, true_and, w0, w71]
                  exact last
          have zero : (pcn s ≠ pcn (nv (σ.1 1) 2) + i ∨ hc (σ.1 1) C m s = 0) → PW 1 ev mM_countsHeard 111 [.ref 0, .int (nI j), .int (nI m), .int (nI (pcn (nv (σ.1 1) 2))), .int (nI i), .int (nI s)] [] (sr σ 7 r) K := by
            intro hz
            refine PW_blk okM_countsHeard 15 rfl SpM_ok ?_
            simp only [wL0, wLc, true_and, w0, w70]
            exact fin 0 (by decide) (fun k hk => Or.inr ⟨Nat.zero_testBit k, hz⟩)
          have hrz : rnd (σ.1 1) C m i (2 ^ nv (σ.1 1) 3) (s + 1) s = 0 → (pcn s ≠ pcn (nv (σ.1 1) 2) + i ∨ hc (σ.1 1) C m s = 0) := by
            intro h
            by_cases c : pcn s = pcn (nv (σ.1 1) 2) + i
            · right
              unfold rnd hcL at h
              rw [cif_y c, cif_n (by omega)] at h
              omega
            · exact Or.inl c
          by_cases h0 : nI (rnd (σ.1 1) C m i (2 ^ nv (σ.1 1) 3) (s + 1) s) = 0
          · refine b2Y h0 ?_
            by_cases c : pcn s = pcn (nv (σ.1 1) 2) + i
            · refine zero (Or.inr ?_)
              have e1 : rnd (σ.1 1) C m i (2 ^ nv (σ.1 1) 3) (s + 1) s = hc (σ.1 1) C m s := by
                unfold rnd hcL
                rw [cif_y c, cif_n (by omega)]
                rfl
              rw [e1, nI_z (by omega)] at h0
              exact h0
            · exact zero (Or.inl c)
          refine b2N h0 ?_
          refine PW_blk okM_countsHeard 14 rfl SpM_ok ?_
          simp only [wL0, wLc, true_and, w1, lg0, lgi, lgr, lgl, w55_1, q40, q41, q42, q43, q44, Option.toList_some, Option.toList_none, List.cons_append, List.nil_append, w11, w78]
          refine R_bits (by omega) ?_
          simp only [wL0, wLc, true_and, w1, lg0, lgi, lgr, lgl, w55_1, q40, q41, q42, q43, q44, Option.toList_some, Option.toList_none, List.cons_append, List.nil_append, w11, w78]
          rw [nI_add, nI_eq_iff (by omega) (by omega)]
          by_cases c : pcn s = pcn (nv (σ.1 1) 2) + i
          rotate_left
          · refine b2N c ?_
            exact zero (Or.inl c)
          refine b2Y c ?_
          have hvc : vp_in (nI (40 * j + i)) 160 := vp_in_nI (by omega) (by decide)
          have clc : (nI (40 * j + i)).toNatClampNeg = 40 * j + i := nI_clamp (by omega)
          refine PW_blk okM_countsHeard 16 rfl SpM_ok ?_
          simp only [wL0, wLc, true_and, w2, lg0, lgi, lgr, lgl, w35, kM0, rM22, kM15, nM15, w0, w1, w13, w11, w39, w54_3, q40, q41, q42, q43, q44, Option.toList_some, Option.toList_none, List.cons_append, List.nil_append, w71, n7_15]
          rw [show (40 : Int32) = nI 40 from rfl, pk_mul, nI_add, clc]
          refine ⟨hvc, ?_⟩
          rw [show σ.1 15 (40 * j + i) = C i by rw [← hC]]
          refine R_heardLocks (σ := sr σ 7 r) hI hs10 ?_
          simp only [wL0, wLc, true_and, w2, lg0, lgi, lgr, lgl, w35, kM0, rM22, kM15, nM15, w0, w1, w13, w11, w39, w54_3, q40, q41, q42, q43, q44, Option.toList_some, Option.toList_none, List.cons_append, List.nil_append, w71, n7_1]
          refine fin _ (by have := biU_lt (hlP (σ.1 1) (C i) s) (nv (σ.1 1) 3); unfold hlN; omega) (fun k hk => Or.inl ⟨?_, c⟩)
          unfold hlN
          rw [biU_bit]
          have ei : pcn s - pcn (nv (σ.1 1) 2) = i := by omega
          unfold okH hlP
          rw [ei]
          constructor
          · intro h
            exact ⟨h.1, h.2.1, by omega, hi, h.2.2⟩
          · intro h
            exact ⟨h.1, h.2.1, h.2.2.2.2⟩
    · intro q hq ih r hr
      have hv : vp_in (nI q) 1024 := vp_in_nI hq (by decide)
      have cl : (nI q).toNatClampNeg = q := nI_clamp (by omega)
      refine PW_blk okM_countsHeard 4 rfl SpM_ok ?_
      simp only [wL0, wLc, true_and, w1, lg0, lgi, lgr, lgl, w0, w81]
      refine b3Y (nI_lt hq (by decide)) ?_
      refine PW_blk okM_countsHeard 5 rfl SpM_ok ?_
      simp only [wL0, wLc, true_and, w2, lg0, lgi, lgr, lgl, w35, kM0, rM8, kM7, nM7, w1, rM0, kM1, nM1, w0, w39, tn2, vi2_120, w79, n7_1, hG.1]
      rw [nI_eq_iff (by omega) (by omega)]
      have fin : ∀ x, x = nI (hcL (σ.1 1) C m 0 q) → PW 1 ev mM_countsHeard 52 [.ref 0, .int (nI j), .int (nI m), .int (nI q)] [.int x, .int (nI q), .ref 7] (sr σ 7 r) K := by
        intro x hx
        refine PW_blk okM_countsHeard 8 rfl SpM_ok ?_
        simp only [wL0, wLc, true_and, w40, w7, lg0, lgi, lgr, lgl, ls00, ls0i, ls0r, ls0l, lsi, lsr, lsl, Option.map_some, w70, si_sr, kM7, nM7, eq_true hv, cl]
        rw [show (1 : Int32) = nI 1 from rfl, nI_add]
        refine ih _ (fun t ht => ?_)
        by_cases e : t = q
        · subst e; rw [updS]; exact hx
        · rw [updN e]; exact hr t (by omega)
      by_cases e : q = nv (σ.1 1) 2
      · refine b3Y e ?_
        refine PW_blk okM_countsHeard 6 rfl SpM_ok ?_
        simp only [wL0, wLc, true_and, w0, w70]
        exact fin 1 (by rw [← hlv 0 q rfl, if_pos e]; rfl)
      · refine b3N e ?_
        refine PW_blk okM_countsHeard 7 rfl SpM_ok ?_
        simp only [wL0, wLc, true_and, w0, w71]
        exact fin 0 (by rw [← hlv 0 q rfl, if_neg e]; rfl)
  refine Rn_V (by decide) rc6 rfl rfl ?_
  refine PW_blk okM_countsHeard 0 rfl SpM_ok ?_
  simp only [wL0, wLc, true_and, w2, lg0, lgi, lgr, lgl, w35, kM0, rM21, kM14, nM14, w1, w39, w0, tn8, w81, eq_true hvj, clj, hN.1]
  unfold m8 at main
  by_cases c : nv (σ.1 14) j < 8
  · rw [if_pos c] at main
    refine b3Y (nI_lt c (by decide)) ?_
    refine PW_blk okM_countsHeard 1 rfl SpM_ok ?_
    simp only [wL0, wLc, true_and, w2, lg0, lgi, lgr, lgl, w35, kM0, rM21, kM14, nM14, w1, w39, w70, eq_true hvj, clj, hN.1]
    exact main
  · rw [if_neg c] at main
    refine b3N (nI_nlt (a := nv (σ.1 14) j) (b := 8) (by omega) (by omega)) ?_
    refine PW_blk okM_countsHeard 2 rfl SpM_ok ?_
    simp only [wL0, wLc, true_and, w0, w71]
    exact main
end MN
