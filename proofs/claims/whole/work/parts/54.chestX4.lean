/-! the class's chest: a lock more, another chest's, a sheet's times, the reader -/
def In (c i : Nat) : Prop := c ≤ i ∧ i ≤ c + 13
/-- nothing but the cells of chest c has changed -/
def Cf (c : Nat) (σ σ' : St2) : Prop := ∀ i, ¬ (c ≤ i ∧ i ≤ c + 13) → σ'.1 i = σ.1 i
theorem Cf_r {c : Nat} {σ : St2} : Cf c σ σ := fun _ _ => rfl
theorem Cf_sr {c k : Nat} {σ σ' : St2} {r : Nat → Int32} (hk : c ≤ k ∧ k ≤ c + 13) (h : Cf c σ σ') : Cf c σ (sr σ' k r) := fun i hi => by
  rw [sr1n (k := k) (i := i) (fun e => hi (by rw [e]; exact hk))]
  exact h i hi
theorem Cf_t {c : Nat} {a b d : St2} (h : Cf c a b) (h2 : Cf c b d) : Cf c a d := fun i hi => (h2 i hi).trans (h i hi)
/-- a lock's first numbers, the first n of them laid -/
def newS (S : Nat → Int32) (k n : Nat) : Nat → Int32 := fun i => if tr k 0 ≤ i ∧ i < tr k n then cst 202 (i - tr k 0) else S i
theorem newS_s {S : Nat → Int32} {k n : Nat} : upd (newS S k n) (tr k n) (cst 202 n) = newS S k (n + 1) := by
  funext i
  rw [updI]
  unfold newS tr
  by_cases h : i = 10 + 10 * k + n
  · rw [if_pos h, if_pos (by omega), show i - (10 + 10 * k + 0) = n by omega]
  · rw [if_neg h]
    by_cases h2 : 10 + 10 * k + 0 ≤ i ∧ i < 10 + 10 * k + n
    · rw [if_pos h2, if_pos (by omega)]
    · rw [if_neg h2, if_neg (by omega)]
section CV
variable {ev : EV} {σ : St2} {K : PO} {c : Nat} {S : Nat → Int32}
theorem X_add {kd : Nat} (hc : CH c) (hX : XC σ c S) (hI : Inv S) (h10 : nv S 3 < 10) (hkd : kd ≤ 6) (hk : ∀ σ', Cf c σ σ' → XC σ' c (cmS S (nI kd)) → K (some (.int (nI (nv S 3)))) σ') : Rn 0 ev mC_add [.ref c, .int (nI kd)] σ K := by
  generalize hn : nv S 3 = n at *
  have e3 : σ.1 c 3 = nI n := by rw [x3 hX hI, hn]
  refine Rn_V (by decide) (rcC hc) rfl rfl ?_
  refine PW_blk okC_add 0 rfl SpX_ok ?_
  simp only [wL0, wLc, true_and, w2, lg0, lgi, lgr, lgl, w33, CH_k hc, w4, ls00, ls0i, ls0r, ls0l, lsi, lsr, lsl, Option.map_some, w1, w74, e3]
  refine b2N (lt0 (by omega)) ?_
  refine PW_blk okC_add 1 rfl SpX_ok ?_
  simp only [wL0, wLc, true_and, w1, lg0, lgi, lgr, lgl, w0, w80]
  refine b2Y (nI_lt h10 (by decide)) ?_
  refine PW_blk okC_add 3 rfl SpX_ok ?_
  simp only [wL0, wLc, true_and, w0, w4, ls00, ls0i, ls0r, ls0l, lsi, lsr, lsl, Option.map_some, w71]
  have key := lp_up (n := 10) (P := fun f => ∀ σ', Cf c σ σ' → σ'.1 c = σ.1 c → σ'.1 (c + 12) = σ.1 (c + 12) → σ'.1 (c + 13) = σ.1 (c + 13) → (∀ q g, g < 10 → q ≠ n → σ'.1 (c + 2 + g) q = σ.1 (c + 2 + g) q) → (∀ g, g < f → σ'.1 (c + 2 + g) n = cst 202 g) → PW 0 ev mC_add 19 [.ref c, .int (nI kd), .int (nI n), .int (nI f)] [] σ' K) ?_ ?_ 0 (by decide) σ Cf_r rfl rfl rfl (fun _ _ _ _ => rfl) (fun g hg => absurd hg (Nat.not_lt_zero g))
  · exact key
  · intro σ' hC ec er es eo en
    refine PW_blk okC_add 4 rfl SpX_ok ?_
    simp only [wL0, wLc, true_and, w1, lg0, lgi, lgr, lgl, w0, w81]
    refine b3N (by decide) ?_
    refine PW_blk okC_add 6 rfl SpX_ok ?_
    simp only [wL0, wLc, true_and, w2, lg0, lgi, lgr, lgl, w35, CH_k hc, CH_r0 hc, CH_t hc, CH_tn hc, w0, w42, w1, w40, w8i, w8r, w33, w11, w36, tn0, vi0_10, CH_f0 hc, CH_a0 hc, CH_n0 hc, tn1, vi1_10, CH_f1 hc, CH_a1 hc, CH_n1 hc, w84, v10 h10, c10 h10, si_is, sr1n (show c ≠ c + 2 by omega), ec, e3]
    have hC2 : Cf c σ (sr (sr σ' (c + 2) (upd (σ'.1 (c + 2)) n (nI kd))) c (upd (σ.1 c) 3 (nI n + 1))) := Cf_sr (by omega) (Cf_sr (by omega) hC)
    refine hk _ hC2 ?_
    have low : ∀ i, i < 10 → i ≠ 3 → cmS S (nI kd) i = S i := fun i hi h3 => by
      unfold cmS tr
      rw [if_neg h3, if_neg (by omega), if_neg (by omega), if_neg (by omega), if_neg (by omega)]
    have c3 : cmS S (nI kd) 3 = nI (n + 1) := by
      unfold cmS
      rw [if_pos rfl, hn]
    have n3 : nv (cmS S (nI kd)) 3 = n + 1 := nv_of c3 (by omega)
    unfold XC
    rw [sr1, n3]
    refine ⟨⟨?_, ?_, ?_, ?_, ?_⟩, fun j hj => ?_, fun i hi => ?_, fun k f hk hf => ?_⟩
    · rw [updS, c3, show (1 : Int32) = nI 1 from rfl, nI_add]
    · rw [updN (by decide), low 2 (by decide) (by decide)]; exact hX.1.2.1
    · rw [updN (by decide), low 0 (by decide) (by decide)]; exact hX.1.2.2.1
    · rw [updN (by decide), low 1 (by decide) (by decide)]; exact hX.1.2.2.2.1
    · rw [updN (by decide), low 9 (by decide) (by decide)]; exact hX.1.2.2.2.2
    · rw [sr1n (by omega), sr1n (by omega), er, low _ (by omega) (by omega)]; exact hX.2.1 j hj
    · have e : cmS S (nI kd) (110 + i) = S (110 + i) := by
        unfold cmS tr
        rw [if_neg (by omega), if_neg (by omega), if_neg (by omega), if_neg (by omega), if_neg (by omega)]
      rw [sr1n (by omega), sr1n (by omega), es, e]
      exact hX.2.2.1 i hi
    · rw [sr1n (by omega)]
      by_cases z : k = n
      · subst z
        have hcs := cst202 f hf
        have hv : cmS S (nI kd) (tr k f) = if f = 0 then nI kd else cst 202 f := by
          rw [hcs]
          unfold cmS tr
          rw [hn, if_neg (by omega)]
          by_cases f0 : f = 0
          · subst f0; rw [if_pos rfl, if_pos rfl]
          rw [if_neg (by omega), if_neg f0]
          by_cases f1 : f = 1
          · subst f1; rw [if_pos rfl, if_pos rfl]; rfl
          rw [if_neg (by omega), if_neg f1]
          by_cases f5 : f = 5
          · subst f5; rw [if_pos rfl, if_pos rfl]; rfl
          rw [if_neg (by omega), if_neg f5, if_pos (by omega)]
          rfl
        rw [hv]
        by_cases f0 : f = 0
        · subst f0
          rw [if_pos rfl, sr1, updS]
        · rw [if_neg f0, sr1n (by omega)]
          exact en f hf
      · have hv : cmS S (nI kd) (tr k f) = S (tr k f) := by
          unfold cmS tr
          rw [hn, if_neg (by omega), if_neg (by omega), if_neg (by omega), if_neg (by omega), if_neg (by omega)]
        rw [hv, ← hX.2.2.2 k f (by omega) hf, ← eo k f hf z]
        by_cases f0 : f = 0
        · subst f0
          rw [sr1, updN z]
        · rw [sr1n (by omega)]
  · intro f hf ih σ' hC ec er es eo en
    refine PW_blk okC_add 4 rfl SpX_ok ?_
    simp only [wL0, wLc, true_and, w1, lg0, lgi, lgr, lgl, w0, w81]
    refine b3Y (nI_lt hf (by decide)) ?_
    refine PW_blk okC_add 5 rfl SpX_ok ?_
    simp only [wL0, wLc, true_and, w2, lg0, lgi, lgr, lgl, w35, CH_k hc, CH_r0 hc, CH_t hc, CH_tn hc, w1, w42, w45, w44, w40, w7, ls00, ls0i, ls0r, ls0l, lsi, lsr, lsl, Option.map_some, w70, v10 h10, c10 h10, v10 hf, c10 hf, CH_fw hc hf, CH_aw hc hf, CH_nw hc hf, sg202, sn202, si_is]
    rw [show (1 : Int32) = nI 1 from rfl, nI_add]
    refine ih _ (Cf_sr (by omega) hC) (by rw [sr1n (by omega)]; exact ec) (by rw [sr1n (by omega)]; exact er) (by rw [sr1n (by omega)]; exact es) (fun q g hg hq => ?_) (fun g hg => ?_)
    · by_cases z : g = f
      · subst z; rw [sr1, updN hq]; exact eo q g hg hq
      · rw [sr1n (by omega)]; exact eo q g hg hq
    · by_cases z : g = f
      · subst z; rw [sr1, updS]
      · rw [sr1n (by omega)]; exact en g (by omega)
theorem cpy_all {n : Nat} {a b : Nat → Int32} {i : Nat} (h : i < n) : va_cpy a b 0 0 n i = a i := by
  show (if 0 ≤ i ∧ i < 0 + n then a (0 + (i - 0)) else b i) = a i
  rw [if_pos (by omega)]
  congr 1
  omega
theorem X_become {d : Nat} (hc : CH c) (hd : CH d) (hcd : c ≠ d) (hX : XC σ d S) (hn10 : nv S 3 ≤ 10) (hk : ∀ σ', Cf c σ σ' → XC σ' c S → K none σ') : Rn 0 ev mC_become [.ref c, .ref d] σ K := by
  have apart : ∀ i j, i ≤ 13 → j ≤ 13 → c + i ≠ d + j := by
    have key : ∀ c ∈ [1, 15, 29], ∀ d ∈ [1, 15, 29], c ≠ d → ∀ i, i ≤ 13 → ∀ j, j ≤ 13 → c + i ≠ d + j := by decide +kernel
    intro i j hi hj
    exact key c (by rcases hc with rfl | rfl | rfl <;> decide) d (by rcases hd with rfl | rfl | rfl <;> decide) hcd i hi j hj
  refine Rn_V (by decide) (rcC hc) rfl rfl ?_
  refine PW_blk okC_become 0 rfl SpX_ok ?_
  simp only [wL0, wLc, true_and, w0, w4, ls00, ls0i, ls0r, ls0l, lsi, lsr, lsl, Option.map_some, w71]
  have key := lp_up (n := 10) (P := fun f => ∀ σ', Cf c σ σ' → (∀ g, g < f → ∀ k, k < 10 → σ'.1 (c + 2 + g) k = σ.1 (d + 2 + g) k) → PW 0 ev mC_become 2 [.ref c, .ref d, .int (nI f)] [] σ' K) ?_ ?_ 0 (by decide) σ Cf_r (fun g hg => absurd hg (Nat.not_lt_zero g))
  · exact key
  · intro σ' hC et
    have dd : ∀ i, i ≤ 13 → σ'.1 (d + i) = σ.1 (d + i) := fun i hi => hC _ (fun z => by
      have h1 := apart (d + i - c) i (by omega) hi
      omega)
    have d0 : σ'.1 d = σ.1 d := dd 0 (by decide)
    refine PW_blk okC_become 1 rfl SpX_ok ?_
    simp only [wL0, wLc, true_and, w1, lg0, lgi, lgr, lgl, w0, w81]
    refine b3N (by decide) ?_
    have cd0 : d ≠ c := fun e => hcd e.symm
    have a1 : d ≠ c + 12 := fun e => apart 12 0 (by decide) (by decide) e.symm
    have a2 : d ≠ c + 13 := fun e => apart 13 0 (by decide) (by decide) e.symm
    have a3 : d + 13 ≠ c + 12 := fun e => apart 12 13 (by decide) (by decide) e.symm
    refine PW_blk okC_become 3 rfl SpX_ok ?_
    simp only [wL0, wLc, true_and, w2, lg0, lgi, lgr, lgl, w35, CH_k hc, CH_r1 hc, CH_ru hc, CH_run hc, w0, w56, q40, q41, q42, q43, q44, CH_r2 hc, CH_sp hc, CH_spn hc, w33, w36, w87, CH_k hd, CH_r1 hd, CH_ru hd, CH_run hd, CH_r2 hd, CH_sp hd, CH_spn hd, tn0, tn5, tn10, si_is, sr1, sr_sr, sr1n a1, sr1n a2, sr1n a3, sr1n cd0, sr1n (show c ≠ c + 12 by omega), sr1n (show c ≠ c + 13 by omega), sr1n (show c + 13 ≠ c + 12 by omega), d0, dd 12 (by decide), dd 13 (by decide)]
    refine ⟨⟨by decide, by decide, by decide⟩, ⟨by decide, by decide⟩, ⟨by decide, by decide, by decide⟩, ⟨by decide, by decide⟩, ?_⟩
    refine hk _ (Cf_sr (by omega) (Cf_sr (by omega) (Cf_sr (by omega) hC))) ?_
    unfold XC
    rw [sr1]
    refine ⟨⟨?_, ?_, ?_, ?_, ?_⟩, fun j hj => ?_, fun i hi => ?_, fun k f hk2 hf => ?_⟩
    · rw [updN (by decide), updN (by decide), updN (by decide), updN (by decide), updS]; exact hX.1.1
    · rw [updN (by decide), updN (by decide), updN (by decide), updS]; exact hX.1.2.1
    · rw [updN (by decide), updN (by decide), updS]; exact hX.1.2.2.1
    · rw [updN (by decide), updS]; exact hX.1.2.2.2.1
    · rw [updS]; exact hX.1.2.2.2.2
    · rw [sr1n (by omega), sr1n (by omega), sr1, cpy_all hj]; exact hX.2.1 j hj
    · rw [sr1n (by omega), sr1, cpy_all hi]; exact hX.2.2.1 i hi
    · rw [sr1n (by omega), sr1n (by omega), sr1n (by omega), et f hf k (by omega)]; exact hX.2.2.2 k f hk2 hf
  · intro f hf ih σ' hC et
    have hsh : σ'.1 (d + 2 + f) = σ.1 (d + 2 + f) := hC _ (fun z => by
      have h1 := apart (d + 2 + f - c) (2 + f) (by omega) (by omega)
      omega)
    refine PW_blk okC_become 1 rfl SpX_ok ?_
    simp only [wL0, wLc, true_and, w1, lg0, lgi, lgr, lgl, w0, w81]
    refine b3Y (nI_lt hf (by decide)) ?_
    refine PW_blk okC_become 2 rfl SpX_ok ?_
    simp only [wL0, wLc, true_and, w2, lg0, lgi, lgr, lgl, w35, CH_k hc, CH_r0 hc, CH_t hc, CH_tn hc, w1, w42, w0, w56, q40, q41, q42, q43, q44, w7, ls00, ls0i, ls0r, ls0l, lsi, lsr, lsl, Option.map_some, tn0, vi0_10, CH_f0 hc, CH_a0 hc, CH_n0 hc, tn10, w70, v10 hf, c10 hf, CH_fw hc hf, CH_aw hc hf, CH_nw hc hf, CH_k hd, CH_r0 hd, CH_t hd, CH_tn hd, CH_fw hd hf, CH_aw hd hf, CH_nw hd hf]
    refine ⟨⟨by decide, by decide, by decide⟩, ⟨by decide, by decide⟩, ?_⟩
    rw [show (1 : Int32) = nI 1 from rfl, nI_add]
    refine ih _ (Cf_sr (by omega) hC) (fun g hg k hk2 => ?_)
    by_cases z : g = f
    · subst z; rw [sr1, cpy_all hk2, hsh]
    · rw [sr1n (by omega)]; exact et g (by omega) k hk2
theorem X_loadTimes {s n : Nat} {N : Nat → Int32} {j : Nat} {C : Nat → Int32} (hc : CH c) (hs : SH s) (hX : XC σ c S) (hI : Inv S) (h2 : σ.1 s 2 = nI n) (hn : n ≤ 40) (hN : nv N j = n) (hC : ∀ q, q < n → σ.1 (s + 1) q = C (40 * j + q)) (hk : ∀ q, (∀ i, i < q → okL S N C j i) → ¬ okL S N C j q → ∀ σ', Cf c σ σ' → XC σ' c (ldS S C j q) → K (some (.int (nI q))) σ') : Rn 0 ev mC_loadTimes [.ref c, .ref s] σ K := by
  have hn10 := hI.1.2
  have hcs : ∀ i, i ≤ 13 → s ≠ c + i ∧ s + 1 ≠ c + i := by
    have key : ∀ c ∈ [1, 15, 29], ∀ s ∈ [54, 56, 58, 60], ∀ i, i ≤ 13 → s ≠ c + i ∧ s + 1 ≠ c + i := by decide +kernel
    intro i hi
    exact key c (by rcases hc with rfl | rfl | rfl <;> decide) s (by rcases hs with rfl | rfl | rfl | rfl <;> decide) i hi
  have ag : ∀ q i, i < 10 → ldS S C j q i = S i := fun q i hi => ldS_ag q i (fun k _ => by unfold tr; omega)
  have agn : ∀ q, nv (ldS S C j q) 3 = nv S 3 := fun q => by unfold nv; rw [ag q 3 (by decide)]
  refine Rn_V (by decide) (rcC hc) rfl rfl ?_
  refine PW_blk okC_loadTimes 0 rfl SpX_ok ?_
  simp only [wL0, wLc, true_and, w0, w4, ls00, ls0i, ls0r, ls0l, lsi, lsr, lsl, Option.map_some, w71]
  have key := lp_up (n := 41) (P := fun q => (∀ i, i < q → okL S N C j i) → ∀ σ', Cf c σ σ' → XC σ' c (ldS S C j q) → PW 0 ev mC_loadTimes 4 [.ref c, .ref s, .int (nI q), .int (nI q)] [] σ' K) ?_ ?_ 0 (by decide) (fun i hi => absurd hi (Nat.not_lt_zero i)) σ Cf_r hX
  · exact key
  · intro h
    have := (h 40 (by decide)).1
    omega
  · intro q hq ih h σ' hC' hX'
    have stop : ¬ okL S N C j q → K (some (.int (nI q))) σ' := fun z => hk q h z σ' hC' hX'
    have es : σ'.1 s = σ.1 s := hC' s (fun z => (hcs (s - c) (by omega)).1 (by omega))
    have es1 : σ'.1 (s + 1) = σ.1 (s + 1) := hC' (s + 1) (fun z => (hcs (s + 1 - c) (by omega)).2 (by omega))
    have h2' : σ'.1 s 2 = nI n := by rw [es]; exact h2
    have e3 : σ'.1 c 3 = nI (nv S 3) := by rw [hX'.1.1, ag q 3 (by decide)]; exact hI.1.1
    have no : ¬ okL S N C j q → PW 0 ev mC_loadTimes 63 [.ref c, .ref s, .int (nI q), .int (nI q)] [] σ' K := by
      intro z
      refine PW_blk okC_loadTimes 7 rfl SpX_ok ?_
      simp only [wL0, wLc, true_and, w1, lg0, lgi, lgr, lgl, w84]
      exact stop z
    refine PW_blk okC_loadTimes 1 rfl SpX_ok ?_
    simp only [wL0, wLc, true_and, w1, lg0, lgi, lgr, lgl, w2, w33, CH_k hc, w81, e3]
    rw [nI_lt_iff (by omega) (by omega)]
    by_cases c1 : q < nv S 3
    rotate_left
    · exact b3N c1 (no (fun z => c1 z.2.1))
    refine b3Y c1 ?_
    have hq10 : q < 10 := by omega
    refine PW_blk okC_loadTimes 2 rfl SpX_ok ?_
    simp only [wL0, wLc, true_and, w1, lg0, lgi, lgr, lgl, w0, w81]
    refine b3Y (nI_lt hq10 (by decide)) ?_
    have no2 : ¬ okL S N C j q → PW 0 ev mC_loadTimes 39 [.ref c, .ref s, .int (nI q), .int (nI q)] [] σ' K := by
      intro z
      refine PW_blk okC_loadTimes 5 rfl SpX_ok ?_
      simp only [wL0, wLc, true_and, w1, lg0, lgi, lgr, lgl, w84]
      exact stop z
    refine PW_blk okC_loadTimes 3 rfl SpX_ok ?_
    simp only [wL0, wLc, true_and, w2, lg0, lgi, lgr, lgl, w1, w54_2, q40, q41, q42, q43, q44, Option.toList_some, Option.toList_none, List.cons_append, List.nil_append, xp_S_has, SH_e hs, w72, h2']
    by_cases c2 : q < n
    rotate_left
    · refine bN (hasN (m := 40) hn (by decide) (fun ⟨q', z1, z2⟩ => ?_)) (no2 (fun z => c2 (by rw [← hN]; exact z.1)))
      rw [nI_eq_iff (by omega) (by omega)] at z2
      omega
    refine bY (hasY (m := 40) hn (by decide) ⟨q, c2, rfl⟩) ?_
    have eC : σ'.1 (s + 1) q = C (40 * j + q) := by rw [es1]; exact hC q c2
    have hIq : Inv (ldS S C j q) := by
      clear ih hX' e3 no no2 stop es es1 h2' eC hC'
      induction q with
      | zero => exact hI
      | succ q ihq =>
        obtain ⟨n1, n2, n3, n4⟩ := (h q (by omega)).2.2
        have hh := ihq (by omega) (fun i hi => h i (by omega)) (by omega) (by omega) (by omega)
        show Inv (upd (ldS S C j q) (tr q 1) (C (40 * j + q)))
        rw [n4]
        exact Inv_changeB hh (by rw [agn]; omega) (by decide) n2 n3
    refine PW_blk okC_loadTimes 4 rfl SpX_ok ?_
    simp only [wL0, wLc, true_and, w2, lg0, lgi, lgr, lgl, w0, w1, w54_2, q40, q41, q42, q43, q44, Option.toList_some, Option.toList_none, List.cons_append, List.nil_append, w54_3, w73]
    refine X_number hs h2' hn c2 ?_
    simp only [wL0, wLc, true_and, w2, lg0, lgi, lgr, lgl, w0, w1, w54_2, q40, q41, q42, q43, q44, Option.toList_some, Option.toList_none, List.cons_append, List.nil_append, w54_3, w73, eC]
    refine X_allows hc hX' hIq (fun z => ?_) (fun w m hw ew d1 d2 ev2 => ?_)
    · simp only [wL0, wLc, true_and, w2, lg0, lgi, lgr, lgl, w0, w1, w54_2, q40, q41, q42, q43, q44, Option.toList_some, Option.toList_none, List.cons_append, List.nil_append, w54_3, w73]
      refine b3Y trivial ?_
      refine no2 (fun y => z ?_)
      obtain ⟨m, m1, m2, m3⟩ := y.2.2
      exact ⟨1, m, by decide, rfl, m1, m2, m3⟩
    · have e1 : 1 = w := (nI_eq_iff (by decide) (by omega)).mp ew
      subst e1
      simp only [wL0, wLc, true_and, w2, lg0, lgi, lgr, lgl, w0, w1, w54_2, q40, q41, q42, q43, q44, Option.toList_some, Option.toList_none, List.cons_append, List.nil_append, w54_3, w73]
      refine b3N (by decide) ?_
      have hk10 : q < 10 := hq10
      refine PW_blk okC_loadTimes 6 rfl SpX_ok ?_
      simp only [wL0, wLc, true_and, w2, lg0, lgi, lgr, lgl, w35, CH_k hc, CH_r0 hc, CH_t hc, CH_tn hc, w0, w42, w1, w54_2, q40, q41, q42, q43, q44, Option.toList_some, Option.toList_none, List.cons_append, List.nil_append, w40, w7, ls00, ls0i, ls0r, ls0l, lsi, lsr, lsl, Option.map_some, tn1, vi1_10, CH_f1 hc, CH_a1 hc, CH_n1 hc, w70, v10 hq10, c10 hq10]
      refine X_number hs h2' hn c2 ?_
      simp only [wL0, wLc, true_and, w2, lg0, lgi, lgr, lgl, w35, CH_k hc, CH_r0 hc, CH_t hc, CH_tn hc, w0, w42, w1, w54_2, q40, q41, q42, q43, q44, Option.toList_some, Option.toList_none, List.cons_append, List.nil_append, w40, w7, ls00, ls0i, ls0r, ls0l, lsi, lsr, lsl, Option.map_some, tn1, vi1_10, CH_f1 hc, CH_a1 hc, CH_n1 hc, w70, v10 hq10, c10 hq10, eC, si_is]
      rw [show (1 : Int32) = nI 1 from rfl, nI_add]
      refine ih (fun i hi => ?_) _ (Cf_sr (by omega) hC') ?_
      · by_cases e : i = q
        · subst e; exact ⟨by rw [hN]; exact c2, c1, m, d1, d2, ev2⟩
        · exact h i (by omega)
      · exact XC_t (w := 1) (by decide) hq10 hX'
theorem X_firstBarred {s n : Nat} {N : Nat → Int32} {j : Nat} {C : Nat → Int32} (hc : CH c) (hs : SH s) (hX : XC σ c S) (hI : Inv S) (h2 : σ.1 s 2 = nI n) (hn : n ≤ 40) (hN : nv N j = n) (hC : ∀ q, q < n → σ.1 (s + 1) q = C (40 * j + q)) (hk : ∀ q, (∀ i, i < q → okJ S N C j i) → ¬ okJ S N C j q → K (some (.int (if q = n then 0 else nI (1 + q)))) σ) : Rn 0 ev mC_firstBarred [.ref c, .ref s] σ K := by
  have hn10 := hI.1.2
  have hT := p2le _ hn10
  refine Rn_V (by decide) (rcC hc) rfl rfl ?_
  refine PW_blk okC_firstBarred 0 rfl SpX_ok ?_
  simp only [wL0, wLc, true_and, w2, lg0, lgi, lgr, lgl, w33, CH_k hc, w4, ls00, ls0i, ls0r, ls0l, lsi, lsr, lsl, Option.map_some, w0, w71, x4 hX hI]
  have key := lp_up (n := 41) (P := fun q => (∀ i, i < q → okJ S N C j i) → PW 0 ev mC_firstBarred 7 [.ref c, .ref s, .int (nI (jdU C j (nv S 2) q)), .int (nI q)] [] σ K) ?_ ?_ 0 (by decide) (fun i hi => absurd hi (Nat.not_lt_zero i))
  · exact key
  · intro h
    have := (h 40 (by decide)).1
    omega
  · intro q hq ih h
    have hjd := jdU_ok (j := j) hI q h
    refine PW_blk okC_firstBarred 1 rfl SpX_ok ?_
    simp only [wL0, wLc, true_and, w1, lg0, lgi, lgr, lgl, w2, w54_1, q40, q41, q42, q43, q44, Option.toList_some, Option.toList_none, List.cons_append, List.nil_append, xp_S_length, SH_e hs, w81, h2]
    rw [nI_lt_iff (by omega) (by omega)]
    by_cases c1 : q < n
    rotate_left
    · refine b3N c1 ?_
      refine PW_blk okC_firstBarred 6 rfl SpX_ok ?_
      simp only [wL0, wLc, true_and, w0, w84]
      have hh := hk q h (fun z => c1 (by rw [← hN]; exact z.1))
      have e : q = n := by
        refine Classical.byContradiction (fun z => ?_)
        have := (h n (by omega)).1
        omega
      rw [if_pos e] at hh
      exact hh
    refine b3Y c1 ?_
    have stop : ¬ okJ S N C j q → ∀ l, PW 0 ev mC_firstBarred 44 [.ref c, .ref s, .int (nI (jdU C j (nv S 2) q)), .int (nI q), .int l] [] σ K := by
      intro z l
      refine PW_blk okC_firstBarred 4 rfl SpX_ok ?_
      simp only [wL0, wLc, true_and, w0, w1, lg0, lgi, lgr, lgl, w11, w84]
      have hh := hk q h z
      rw [if_neg (by omega)] at hh
      rw [show (1 : Int32) = nI 1 from rfl, nI_add]
      exact hh
    refine PW_blk okC_firstBarred 2 rfl SpX_ok ?_
    simp only [wL0, wLc, true_and, w2, lg0, lgi, lgr, lgl, w1, w54_2, q40, q41, q42, q43, q44, Option.toList_some, Option.toList_none, List.cons_append, List.nil_append, w4, ls00, ls0i, ls0r, ls0l, lsi, lsr, lsl, Option.map_some, xp_C_has, CH_e hc, w72]
    refine X_number hs h2 hn c1 ?_
    simp only [wL0, wLc, true_and, w2, lg0, lgi, lgr, lgl, w1, w54_2, q40, q41, q42, q43, q44, Option.toList_some, Option.toList_none, List.cons_append, List.nil_append, w4, ls00, ls0i, ls0r, ls0l, lsi, lsr, lsl, Option.map_some, xp_C_has, CH_e hc, w72, hC q c1, x3 hX hI]
    by_cases c2 : hasL S (C (40 * j + q))
    rotate_left
    · refine bN (hasS' hn10 c2) (stop (fun ⟨_, k, a, b, _⟩ => c2 ⟨k, a, b⟩) _)
    refine bY (hasS hn10 c2) ?_
    obtain ⟨k, hkn, ek⟩ := c2
    have hml := mayN_lt S (jdU C j (nv S 2) q)
    refine PW_blk okC_firstBarred 3 rfl SpX_ok ?_
    simp only [wL0, wLc, true_and, w2, lg0, lgi, lgr, lgl, w1, w54_2, q40, q41, q42, q43, q44, Option.toList_some, Option.toList_none, List.cons_append, List.nil_append, w20, w0, w16, w73]
    refine X_mayAt hc hX hI (by omega) ?_
    simp only [wL0, wLc, true_and, w2, lg0, lgi, lgr, lgl, w1, w54_2, q40, q41, q42, q43, q44, Option.toList_some, Option.toList_none, List.cons_append, List.nil_append, w20, w0, w16, w73, ek]
    rw [bit1 (by omega) (by omega)]
    by_cases c3 : (mayN S (jdU C j (nv S 2) q)).testBit k = true
    rotate_left
    · refine dN1 c3 (stop (fun ⟨_, k', a, b, d⟩ => ?_) _)
      rw [ek, nI_eq_iff (by omega) (by omega)] at b
      subst b
      exact c3 d
    refine dY1 c3 ?_
    have ej : jdU C j (nv S 2) (q + 1) = jdU C j (nv S 2) q ||| 2 ^ k := by
      show _ ||| 2 ^ (C (40 * j + q)).toNatClampNeg = _
      rw [ek, nI_clamp (show k < 2 ^ 31 by omega)]
    rw [ej] at ih
    refine PW_blk okC_firstBarred 5 rfl SpX_ok ?_
    simp only [wL0, wLc, true_and, w1, lg0, lgi, lgr, lgl, w0, w19, w17, w4, ls00, ls0i, ls0r, ls0l, lsi, lsr, lsl, Option.map_some, w7, w70, nI_sh1 k (by omega), fa_or]
    refine PW_loc 4 ?_
    rw [show (1 : Int32) = nI 1 from rfl, nI_add]
    refine ih (fun i hi => ?_)
    by_cases e : i = q
    · subst e; exact ⟨by rw [hN]; exact c1, k, hkn, ek, c3⟩
    · exact h i (by omega)
end CV
