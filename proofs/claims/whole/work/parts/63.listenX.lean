/-! the class: rows that sound as told -/
def XS (σ : St2) (j : Nat) (W N C : Nat → Int32) : Prop := σ.1 (54 + 2 * j) 1 = W j ∧ σ.1 (54 + 2 * j) 2 = N j ∧ ∀ q, q < 40 → σ.1 (54 + 2 * j + 1) q = C (40 * j + q)
theorem SHj {j : Nat} (h : j < 4) : SH (54 + 2 * j) := by
  have := (SH_of h).1
  rwa [(SH_of h).2] at this
theorem rfj {j : Nat} (h : j < 4) : rfs 0 53 j = 54 + 2 * j := (SH_of h).2
theorem v4 {j : Nat} (h : j < 4) : vp_in (nI j) 4 = True := eq_true (vp_in_nI h (by decide))
theorem alU_bit {a : Nat} {P : Nat → Prop} : ∀ n i, (alU a P n).testBit i = true ↔ a.testBit i = true ∧ ∀ t, t < n → P t → t.testBit i = true
  | 0, i => ⟨fun h => ⟨h, fun t ht => absurd ht (Nat.not_lt_zero t)⟩, fun h => h.1⟩
  | n + 1, i => by
    have ih := alU_bit (a := a) (P := P) n i
    unfold alU
    by_cases c : P n
    · rw [cif_y c, Nat.testBit_and, Bool.and_eq_true, ih]
      constructor
      · intro ⟨⟨h1, h2⟩, h3⟩
        refine ⟨h1, fun t ht hp => ?_⟩
        by_cases e : t = n
        · subst e; exact h3
        · exact h2 t (by omega) hp
      · intro ⟨h1, h2⟩
        exact ⟨⟨h1, fun t ht hp => h2 t (by omega) hp⟩, h2 n (Nat.lt_succ_self n) c⟩
    · rw [cif_n c, ih]
      constructor
      · intro ⟨h1, h2⟩
        refine ⟨h1, fun t ht hp => ?_⟩
        by_cases e : t = n
        · subst e; exact absurd hp c
        · exact h2 t (by omega) hp
      · intro ⟨h1, h2⟩
        exact ⟨h1, fun t ht hp => h2 t (by omega) hp⟩
theorem alU_eq {P : Nat → Prop} {n : Nat} (hn : n ≤ 10) (hex : ∃ t, t < 1024 ∧ P t) (hl : ∀ t, t < 1024 → P t → t < 2 ^ n) : alU (2 ^ n - 1) P 1024 = alU 1023 P 1024 := by
  apply Nat.eq_of_testBit_eq
  intro i
  rw [Bool.eq_iff_iff, alU_bit, alU_bit, show (1023 : Nat) = 2 ^ 10 - 1 from rfl, Nat.testBit_two_pow_sub_one, Nat.testBit_two_pow_sub_one, decide_eq_true_iff, decide_eq_true_iff]
  obtain ⟨t, ht, hp⟩ := hex
  constructor
  · intro ⟨h1, h2⟩; exact ⟨by omega, h2⟩
  · intro ⟨h1, h2⟩
    refine ⟨?_, h2⟩
    refine Classical.byContradiction (fun z => ?_)
    have h3 := h2 t ht hp
    have h4 := hl t ht hp
    rw [Nat.testBit_lt_two_pow (Nat.lt_of_lt_of_le h4 (Nat.pow_le_pow_right (by decide) (by omega)))] at h3
    cases h3
theorem lvl_sum : ∀ L, L < 11 → suU (fun t => if pcn t = L then fac L else 0) 1024 ≤ 3628800 := by decide +kernel
theorem suU_le {f g : Nat → Nat} : ∀ n, (∀ t, t < n → f t ≤ g t) → suU f n ≤ suU g n
  | 0, _ => Nat.le_refl _
  | n + 1, h => Nat.add_le_add (suU_le n (fun t ht => h t (by omega))) (h n (Nat.lt_succ_self n))
theorem suU_pos {f : Nat → Nat} : ∀ n, suU f n ≠ 0 ↔ ∃ t, t < n ∧ f t ≠ 0
  | 0 => ⟨fun h => absurd rfl h, fun ⟨t, h, _⟩ => absurd h (Nat.not_lt_zero t)⟩
  | n + 1 => by
    have ih := suU_pos (f := f) n
    show suU f n + f n ≠ 0 ↔ _
    constructor
    · intro h
      by_cases c : f n = 0
      · obtain ⟨t, a, b⟩ := ih.mp (by omega)
        exact ⟨t, by omega, b⟩
      · exact ⟨n, by omega, c⟩
    · intro ⟨t, a, b⟩
      by_cases e : t = n
      · subst e; omega
      · have := ih.mpr ⟨t, by omega, b⟩
        omega
section HL
variable {S C : Nat → Int32} {m : Nat}
theorem hc_lv (hn : nv S 3 ≤ 10) {t : Nat} (h : fw (okH S C m) (nv S 2) t t ≠ 0) : pcn (nv S 2) ≤ pcn t ∧ pcn t ≤ pcn (nv S 2) + m :=
  fw_ind (okH_p hn) (P := fun t => pcn (nv S 2) ≤ pcn t ∧ pcn t ≤ pcn (nv S 2) + m) ⟨Nat.le_refl _, Nat.le_add_right _ _⟩ (fun p k ok _ ih => by
    have hb := okH_p hn p k ok
    have := pcn_or hb.2 hb.1
    have := ok.2.2.2.1
    omega) t t (Nat.le_refl _) h
theorem hc_r (hn : nv S 3 ≤ 10) {t : Nat} (h : fw (okH S C m) (nv S 2) t t ≠ 0) : rch S (nv S 2) t :=
  fw_ind (okH_p hn) (P := fun t => rch S (nv S 2) t) (rch_fr hn) (fun p k ok _ ih => rch_to hn (mayN_bit.mpr ⟨ok.1, ok.2.1⟩) ih) t t (Nat.le_refl _) h
theorem hcL_sum (hI : Inv S) : suU (hcL S C m m) 1024 ≤ 3628800 := by
  have hn := hI.1.2
  have hp2 := p2le _ hn
  have hl := hI.2.1.2
  by_cases c : pcn (nv S 2) + m < 11
  · refine Nat.le_trans (suU_le 1024 (fun t ht => ?_)) (lvl_sum (pcn (nv S 2) + m) c)
    unfold hcL
    by_cases e : pcn t = pcn (nv S 2) + m
    · rw [cif_y e, if_pos e, ← e]
      exact fw_bnd0 (okH_p hn) ht (by omega) (fw_bnd (okH_p hn) (by omega) t (by omega))
    · rw [cif_n e]; exact Nat.zero_le _
  · have hz : suU (hcL S C m m) 1024 = 0 := by
      refine Classical.byContradiction (fun z => ?_)
      obtain ⟨t, ht, h⟩ := (suU_pos 1024).mp z
      unfold hcL at h
      by_cases e : pcn t = pcn (nv S 2) + m
      · have := pcn_le t; omega
      · rw [cif_n e] at h; exact h rfl
    omega
theorem hcL_lt (hI : Inv S) {t : Nat} (h : hcL S C m m t ≠ 0) : t < 2 ^ nv S 3 := by
  have hn := hI.1.2
  unfold hcL at h
  by_cases e : pcn t = pcn (nv S 2) + m
  · rw [cif_y e] at h
    exact rch_lt hn hI.2.1.2 (hc_r hn h)
  · rw [cif_n e] at h; exact absurd rfl h
end HL
section HX
variable {ev : EV} {σ : St2} {K : PO} {S : Nat → Int32}
theorem X_soundingOf {s : Nat} {v : Int32} (hX : XC σ 1 S) (hI : Inv S) (hk : K (some (.int (nI (hlN S v s)))) σ) : Rn 0 ev mW_soundingOf [.ref 43, .int (nI (mayN S s)), .int v] σ K := by
  have hc := CH1
  have hn10 := hI.1.2
  have hp2 := p2le _ hn10
  have hml := mayN_lt S s
  have e : hlN S v s = biU (fun k => (mayN S s).testBit k = true ∧ nI (soundN S k) = v) 10 := by
    apply Nat.eq_of_testBit_eq
    intro i
    unfold hlN
    rw [Bool.eq_iff_iff, biU_bit, biU_bit, mayN_bit]
    unfold hlP
    constructor
    · intro ⟨a, b, d⟩; exact ⟨by omega, ⟨a, b⟩, d⟩
    · intro ⟨a, ⟨b, d⟩, f⟩; exact ⟨b, d, f⟩
  rw [e] at hk
  refine Rn_V (by decide) rc4 rfl rfl ?_
  refine PW_blk okW_soundingOf 0 rfl SpX_ok ?_
  simp only [wL0, wLc, true_and, w0, w4, ls00, ls0i, ls0r, ls0l, lsi, lsr, lsl, Option.map_some, w71]
  have key := lp_up (n := 10) (P := fun k => PW 0 ev mW_soundingOf 5 [.ref 43, .int (nI (mayN S s)), .int v, .int (nI (biU (fun k => (mayN S s).testBit k = true ∧ nI (soundN S k) = v) k)), .int (nI k)] [] σ K) ?_ ?_ 0 (by decide)
  · exact key
  · refine PW_blk okW_soundingOf 1 rfl SpX_ok ?_
    simp only [wL0, wLc, true_and, w1, lg0, lgi, lgr, lgl, w0, w81]
    refine b3N (by decide) ?_
    refine PW_blk okW_soundingOf 6 rfl SpX_ok ?_
    simp only [wL0, wLc, true_and, w1, lg0, lgi, lgr, lgl, w84]
    exact hk
  · intro k hk10 ih
    have e1 : biU (fun k => (mayN S s).testBit k = true ∧ nI (soundN S k) = v) (k + 1) = biU (fun k => (mayN S s).testBit k = true ∧ nI (soundN S k) = v) k ||| cif ((mayN S s).testBit k = true ∧ nI (soundN S k) = v) (2 ^ k) 0 := rfl
    rw [e1] at ih
    have no : ¬ ((mayN S s).testBit k = true ∧ nI (soundN S k) = v) → PW 0 ev mW_soundingOf 41 [.ref 43, .int (nI (mayN S s)), .int v, .int (nI (biU (fun k => (mayN S s).testBit k = true ∧ nI (soundN S k) = v) k)), .int (nI k)] [] σ K := by
      intro z
      rw [cif_n z, Nat.or_zero] at ih
      refine PW_blk okW_soundingOf 5 rfl SpX_ok ?_
      simp only [wL0, wLc, true_and, w7, lg0, lgi, lgr, lgl, ls00, ls0i, ls0r, ls0l, lsi, lsr, lsl, Option.map_some, w70]
      rw [show (1 : Int32) = nI 1 from rfl, nI_add]
      exact ih
    refine PW_blk okW_soundingOf 1 rfl SpX_ok ?_
    simp only [wL0, wLc, true_and, w1, lg0, lgi, lgr, lgl, w0, w81]
    refine b3Y (nI_lt hk10 (by decide)) ?_
    refine PW_blk okW_soundingOf 2 rfl SpX_ok ?_
    simp only [wL0, wLc, true_and, w1, lg0, lgi, lgr, lgl, w20, w0, w16, w72]
    rw [bit1 (by omega) (by omega)]
    by_cases hb : (mayN S s).testBit k = true
    rotate_left
    · exact bN1 hb (no (fun z => hb z.1))
    refine bY1 hb ?_
    refine PW_blk okW_soundingOf 3 rfl SpX_ok ?_
    simp only [wL0, wLc, true_and, w2, lg0, lgi, lgr, lgl, w35, kX43, rX43_0, w1, w54_2, q40, q41, q42, q43, q44, Option.toList_some, Option.toList_none, List.cons_append, List.nil_append, w79]
    refine X_sounds hc hX hI (mayN_bit.mp hb).1 ?_
    simp only [wL0, wLc, true_and, w2, lg0, lgi, lgr, lgl, w35, kX43, rX43_0, w1, w54_2, q40, q41, q42, q43, q44, Option.toList_some, Option.toList_none, List.cons_append, List.nil_append, w79]
    by_cases c2 : nI (soundN S k) = v
    · rw [cif_y ⟨hb, c2⟩] at ih
      refine b3Y c2 ?_
      refine PW_blk okW_soundingOf 4 rfl SpX_ok ?_
      simp only [wL0, wLc, true_and, w1, lg0, lgi, lgr, lgl, w0, w19, w17, w4, ls00, ls0i, ls0r, ls0l, lsi, lsr, lsl, Option.map_some, w71, nI_sh1 k (by omega), fa_or]
      refine PW_blk okW_soundingOf 5 rfl SpX_ok ?_
      simp only [wL0, wLc, true_and, w7, lg0, lgi, lgr, lgl, ls00, ls0i, ls0r, ls0l, lsi, lsr, lsl, Option.map_some, w70]
      rw [show (1 : Int32) = nI 1 from rfl, nI_add]
      exact ih
    · exact b3N c2 (no (fun z => c2 z.2))
theorem X_listen {sh n : Nat} {C : Nat → Int32} (hX : XC σ 1 S) (hI : Inv S) (hs : SH sh) (h2 : σ.1 sh 2 = nI n) (hn40 : n ≤ 40) (hC : ∀ q, q < n → σ.1 (sh + 1) q = C q) (hk : ∀ σ', Wf σ σ' → σ'.1 43 9 = nI (suU (hcL S C (m8 n) (m8 n)) 1024) → σ'.1 43 10 = nI (orU (fun t => cif (hcL S C (m8 n) (m8 n) t ≠ 0) t 0) 1024) → σ'.1 43 11 = nI (alU (2 ^ nv S 3 - 1) (fun t => hcL S C (m8 n) (m8 n) t ≠ 0) 1024) → K none σ') : Rn 0 ev mW_listen [.ref 43, .ref sh] σ K := by
  have hc := CH1
  have hn10 := hI.1.2
  have hp2 := p2le _ hn10
  have hoT := hI.2.1.2
  have hop := okH_p (S := S) (C := C) (m := m8 n) hn10
  have hm8 : m8 n ≤ 8 ∧ m8 n ≤ n := by unfold m8; split <;> omega
  have shne : sh ≠ 43 ∧ sh ≠ 47 ∧ sh + 1 ≠ 43 ∧ sh + 1 ≠ 47 ∧ ¬ (43 ≤ sh ∧ sh ≤ 50) ∧ ¬ (43 ≤ sh + 1 ∧ sh + 1 ≤ 50) := by rcases hs with rfl | rfl | rfl | rfl <;> decide
  refine Rn_V (by decide) rc4 rfl rfl ?_
  refine PW_blk okW_listen 0 rfl SpX_ok ?_
  simp only [wL0, wLc, true_and, w2, lg0, lgi, lgr, lgl, w54_1, q40, q41, q42, q43, q44, Option.toList_some, Option.toList_none, List.cons_append, List.nil_append, w0, w36, kX43, w35, rX43_0, xp_C_allLocks, CH_e hc, xp_S_length, SH_e hs, w57, w4, ls00, ls0i, ls0r, ls0l, lsi, lsr, lsl, Option.map_some, w71]
  refine X_exploreRows hX hI (fun σ1 r0 hW1 hT h0 => ?_)
  have e2 : σ1.1 sh 2 = nI n := by rw [hW1 _ shne.2.2.2.2.1]; exact h2
  have hC1 : ∀ q, q < n → σ1.1 (sh + 1) q = C q := fun q hq => by rw [hW1 _ shne.2.2.2.2.2]; exact hC q hq
  have x03 := x3 (Wf_X (σ' := sr (sr σ1 47 r0) 43 (upd (upd (σ1.1 43) 9 0) 10 0)) (Wf_sr (by decide) (Wf_sr (by decide) hW1)) hX) hI
  simp only [wL0, wLc, true_and, w2, lg0, lgi, lgr, lgl, w54_1, q40, q41, q42, q43, q44, Option.toList_some, Option.toList_none, List.cons_append, List.nil_append, w0, w36, kX43, w35, rX43_0, xp_C_allLocks, CH_e hc, xp_S_length, SH_e hs, w57, w4, ls00, ls0i, ls0r, ls0l, lsi, lsr, lsl, Option.map_some, w71, si_is, sr1, sr_sr, sr1n (show 43 ≠ 47 by decide), x03, alF_n _ (show nv S 3 < 31 by omega), sr1n shne.1, sr1n shne.2.1, e2]
  have emin : (if (8 : Int32) < nI n then (8 : Int32) else nI n) = nI (m8 n) := by
    unfold m8
    by_cases z : 8 < n
    · rw [if_pos (show (8 : Int32) < nI n from nI_lt z (by omega)), if_neg (by omega)]
      rfl
    · rw [if_neg (show ¬ (8 : Int32) < nI n from nI_nlt (a := 8) (b := n) (by omega) (by decide))]
      by_cases z2 : n < 8
      · rw [if_pos z2]
      · rw [if_neg z2, show n = 8 by omega]
  rw [emin]
  generalize hoo : nv S 2 = o at *
  generalize hF : hcL S C (m8 n) (m8 n) = F at *
  have eF : ∀ t, F t = cif (pcn t = pcn o + m8 n) (fw (okH S C (m8 n)) o t t) 0 := fun t => by rw [← hF, ← hoo]; rfl
  have key := lp_up (n := 1024) (P := fun s => ∀ r q, (∀ t, t < 1024 → r t = nI (fw (okH S C (m8 n)) o s t)) → q 9 = nI (suU F s) → q 10 = nI (orU (fun t => cif (F t ≠ 0) t 0) s) → q 11 = nI (alU (2 ^ nv S 3 - 1) (fun t => F t ≠ 0) s) → ∀ x : List Value, x.take 4 = [.ref 43, .ref sh, .int (nI (m8 n)), .int (nI s)] → PW 0 ev mW_listen 37 x [] (sr (sr σ1 47 r) 43 q) K) ?_ ?_ 0 (by decide) r0 (upd (upd (upd (σ1.1 43) 9 0) 10 0) 11 (nI (2 ^ nv S 3 - 1))) h0 ?_ ?_ ?_ [.ref 43, .ref sh, .int (nI (m8 n)), .int (nI 0)] rfl
  · exact key
  · intro r q hr q8 q9 q10 x hx
    refine PW_loc 4 ?_
    rw [hx]
    refine PW_blk okW_listen 1 rfl SpX_ok ?_
    simp only [wL0, wLc, true_and, w1, lg0, lgi, lgr, lgl, w0, w81]
    refine b3N (by decide) ?_
    refine PW_blk okW_listen 8 rfl SpX_ok ?_
    simp only [wL0, w87]
    refine hk _ (Wf_sr (by decide) (Wf_sr (by decide) hW1)) ?_ ?_ ?_
    · rw [sr1]; exact q8
    · rw [sr1]; exact q9
    · rw [sr1]; exact q10
  · intro s hs2 ih r q hr q8 q9 q10 x hx
    refine PW_loc 4 ?_
    rw [hx]
    have hW' : Wf σ (sr (sr σ1 47 r) 43 q) := Wf_sr (by decide) (Wf_sr (by decide) hW1)
    have hX' : XC (sr (sr σ1 47 r) 43 q) 1 S := Wf_X hW' hX
    have hsm := fw_small hop (fr := o) (by omega) hs2
    have ers := hr s hs2
    have enx : fw (okH S C (m8 n)) o (s + 1) = fwK (okH S C (m8 n)) (fw (okH S C (m8 n)) o s) s 10 := rfl
    have f1 : suU F (s + 1) = suU F s + F s := rfl
    have f2 : orU (fun t => cif (F t ≠ 0) t 0) (s + 1) = orU (fun t => cif (F t ≠ 0) t 0) s ||| cif (F s ≠ 0) s 0 := rfl
    have f3 : alU (2 ^ nv S 3 - 1) (fun t => F t ≠ 0) (s + 1) = cif (F s ≠ 0) (alU (2 ^ nv S 3 - 1) (fun t => F t ≠ 0) s &&& s) (alU (2 ^ nv S 3 - 1) (fun t => F t ≠ 0) s) := rfl
    have pass : F s = 0 → ∀ r, (∀ t, t < 1024 → r t = nI (fw (okH S C (m8 n)) o (s + 1) t)) → ∀ y, PW 0 ev mW_listen 144 [.ref 43, .ref sh, .int (nI (m8 n)), .int (nI s), .int y] [] (sr (sr σ1 47 r) 43 q) K := by
      intro z r hr y
      rw [z, Nat.add_zero] at f1
      rw [cif_n (fun w => w z), Nat.or_zero] at f2
      rw [cif_n (fun w => w z)] at f3
      refine PW_blk okW_listen 7 rfl SpX_ok ?_
      simp only [wL0, wLc, true_and, w7, lg0, lgi, lgr, lgl, ls00, ls0i, ls0r, ls0l, lsi, lsr, lsl, Option.map_some, w70]
      rw [show (1 : Int32) = nI 1 from rfl, nI_add]
      exact ih r q hr (by rw [f1]; exact q8) (by rw [f2]; exact q9) (by rw [f3]; exact q10) _ rfl
    refine PW_blk okW_listen 1 rfl SpX_ok ?_
    simp only [wL0, wLc, true_and, w1, lg0, lgi, lgr, lgl, w0, w81]
    refine b3Y (nI_lt hs2 (by decide)) ?_
    have ex4 := x4 hX' hI
    rw [hoo] at ex4
    refine PW_blk okW_listen 2 rfl SpX_ok ?_
    simp only [wL0, wLc, true_and, w1, lg0, lgi, lgr, lgl, w55_1, q40, q41, q42, q43, q44, Option.toList_some, Option.toList_none, List.cons_append, List.nil_append, xp_JI_bitCount, w2, w35, kX43, rX43_0, w33, CH_k hc, w12, w4, ls00, ls0i, ls0r, ls0l, lsi, lsr, lsl, Option.map_some, rX43_4, kX47, nX47, w39, w72, bcF_n s hs2, ex4, bcF_n o (show o < 1024 by omega), v1024 hs2, c1024 hs2, sr1n (show 47 ≠ 43 by decide), sr1, ers]
    rw [nI_z (by omega)]
    by_cases c0 : fw (okH S C (m8 n)) o s s = 0
    · refine b2Y c0 ?_
      have hFs : F s = 0 := by
        rw [eF, c0]
        by_cases z : pcn s = pcn o + m8 n
        · rw [cif_y z]
        · rw [cif_n z]
      refine PW_blk okW_listen 5 rfl SpX_ok ?_
      simp only [wL0, wLc, true_and, w2, lg0, lgi, lgr, lgl, w35, kX43, rX43_4, kX47, nX47, w1, w39, w72, v1024 hs2, c1024 hs2, sr1n (show 47 ≠ 43 by decide), sr1, ers]
      rw [nI_z (by omega)]
      refine b2Y c0 ?_
      exact pass hFs r (fun t ht => by rw [enx, fwK_zero c0]; exact hr t ht) _
    refine b2N c0 ?_
    have hlv := hc_lv hn10 (t := s) (by rw [hoo]; exact c0)
    rw [hoo] at hlv
    have hrc := hc_r hn10 (t := s) (by rw [hoo]; exact c0)
    rw [hoo] at hrc
    have hps := pcn_le s
    have esub : nI (pcn s) - nI (pcn o) = nI (pcn s - pcn o) := pk_sub hlv.1
    rw [esub]
    refine PW_blk okW_listen 3 rfl SpX_ok ?_
    simp only [wL0, wLc, true_and, w1, lg0, lgi, lgr, lgl, w79]
    rw [nI_eq_iff (by omega) (by omega)]
    by_cases c1 : pcn s - pcn o = m8 n
    · refine b3Y c1 ?_
      have hFs : F s = fw (okH S C (m8 n)) o s s := by rw [eF, cif_y (by omega)]
      have hFn : F s ≠ 0 := by rw [hFs]; exact c0
      rw [cif_y hFn] at f2 f3
      rw [hFs] at f1
      refine PW_blk okW_listen 4 rfl SpX_ok ?_
      simp only [wL0, wLc, true_and, w2, lg0, lgi, lgr, lgl, w8i, w8r, w33, kX43, w35, rX43_4, kX47, nX47, w1, w39, w11, w36, w17, w16, w70, v1024 hs2, c1024 hs2, si_is, sr1, sr_sr, sr1n (show 47 ≠ 43 by decide), ers, q8, updI, q9, q10]
      simp only [show ¬ (10 = 9) by decide, show ¬ (11 = 9) by decide, show ¬ (11 = 10) by decide, if_false, q9, q10]
      refine PW_blk okW_listen 7 rfl SpX_ok ?_
      simp only [wL0, wLc, true_and, w7, lg0, lgi, lgr, lgl, ls00, ls0i, ls0r, ls0l, lsi, lsr, lsl, Option.map_some, w70]
      rw [show (1 : Int32) = nI 1 from rfl, nI_add]
      refine ih r _ (fun t ht => ?_) ?_ ?_ ?_ _ rfl
      · rw [enx, fwK_no (fun k z => by have := z.2.2.2.1; rw [hoo] at this; omega)]
        exact hr t ht
      · rw [updN (by decide), updN (by decide), updS, nI_add, f1]
      · rw [updN (by decide), updS, fa_or, f2]
      · rw [updS, fa_and, f3]
    · refine b3N c1 ?_
      have hFs : F s = 0 := by rw [eF, cif_n (by omega)]
      refine PW_blk okW_listen 5 rfl SpX_ok ?_
      simp only [wL0, wLc, true_and, w2, lg0, lgi, lgr, lgl, w35, kX43, rX43_4, kX47, nX47, w1, w39, w72, v1024 hs2, c1024 hs2, sr1n (show 47 ≠ 43 by decide), sr1, ers]
      rw [nI_z (by omega)]
      refine b2N c0 ?_
      obtain ⟨t1, -⟩ := hT s hs2
      have hml := mayN_lt S s
      have hst : pcn s - pcn o < m8 n := by omega
      have e2' : (sr (sr σ1 47 r) 43 q).1 sh 2 = nI n := by rw [sr1n shne.1, sr1n shne.2.1]; exact e2
      have eC' : (sr (sr σ1 47 r) 43 q).1 (sh + 1) (pcn s - pcn o) = C (pcn s - pcn o) := by rw [sr1n shne.2.2.1, sr1n shne.2.2.2.1]; exact hC1 _ (by omega)
      refine PW_blk okW_listen 6 rfl SpX_ok ?_
      simp only [wL0, wLc, true_and, w2, lg0, lgi, lgr, lgl, w1, w35, kX43, rX43_1, kX44, nX44, w39, w54_2, q40, q41, q42, q43, q44, Option.toList_some, Option.toList_none, List.cons_append, List.nil_append, w54_3, w71, v1024 hs2, c1024 hs2, sr1n (show 44 ≠ 47 by decide), sr1n (show 44 ≠ 43 by decide), (t1 hrc).1]
      refine X_number hs e2' hn40 (by omega) ?_
      simp only [wL0, wLc, true_and, w2, lg0, lgi, lgr, lgl, w1, w35, kX43, rX43_1, kX44, nX44, w39, w54_2, q40, q41, q42, q43, q44, Option.toList_some, Option.toList_none, List.cons_append, List.nil_append, w54_3, w71, eC']
      refine X_soundingOf hX' hI ?_
      simp only [wL0, wLc, true_and, w2, lg0, lgi, lgr, lgl, w1, w35, kX43, rX43_1, kX44, nX44, w39, w54_2, q40, q41, q42, q43, q44, Option.toList_some, Option.toList_none, List.cons_append, List.nil_append, w54_3, w71]
      have hhl : hlN S (C (pcn s - pcn o)) s < 2 ^ nv S 3 := biU_lt _ _
      refine X_handOn (ok := okH S C (m8 n)) (W := fw (okH S C (m8 n)) o s) hop hs2 (by omega) (fun k _ => ?_) (fun t ht => by rw [sr1n (by decide), sr1]; exact hr t ht) (fun r' hr' => ?_)
      · unfold hlN
        rw [biU_bit]
        unfold hlP okH
        rw [hoo]
        exact ⟨fun z => ⟨z.1, z.2.1, hlv.1, hst, z.2.2⟩, fun z => ⟨z.1, z.2.1, z.2.2.2.2⟩⟩
      · simp only [wL0, wLc, true_and, w2, lg0, lgi, lgr, lgl, w1, w35, kX43, rX43_1, kX44, nX44, w39, w54_2, q40, q41, q42, q43, q44, Option.toList_some, Option.toList_none, List.cons_append, List.nil_append, w54_3, w71]
        rw [sr_comm (k := 43) (k' := 47) (by decide), sr_sr]
        exact pass hFs r' hr' _
  · rw [updN (by decide), updN (by decide), updS]; rfl
  · rw [updN (by decide), updS]; rfl
  · rw [updS]; rfl
end HX
