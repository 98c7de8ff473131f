/-! the class's chest: a lock more, another chest's, a sheet's times, the reader -/
def In (c i : Nat) : Prop := c ≤ i ∧ i ≤ c + 13
/-- nothing but the cells of chest c has changed -/
def Cf (c : Nat) (σ σ' : St2) : Prop := ∀ i, ¬ (c ≤ i ∧ i ≤ c + 13) → σ'.1 i = σ.1 i
theorem Cf_r {c : Nat} {σ : St2} : Cf c σ σ := fun _ _ => rfl
theorem Cf_sr {c k : Nat} {σ σ' : St2} {r : Nat → Int32} (hk : c ≤ k ∧ k ≤ c + 13) (h : Cf c σ σ') : Cf c σ (sr σ' k r) := fun i hi => by
  rw [sr1n (k := k) (i := i) (fun e => hi (by rw [e]; exact hk))]
  exact h i hi
theorem Cf_t {c : Nat} {a b d : St2} (h : Cf c a b) (h2 : Cf c b d) : Cf c a d := fun i hi => (h2 i hi).trans (h i hi)
/-- a lock's first numbers, the first n of them laid -/
def newS (S : Nat → Int32) (k n : Nat) : Nat → Int32 := fun i => if tr k 0 ≤ i ∧ i < tr k n then cst 202 (i - tr k 0) else S i
theorem newS_s {S : Nat → Int32} {k n : Nat} : upd (newS S k n) (tr k n) (cst 202 n) = newS S k (n + 1) := by
  funext i
  rw [updI]
  unfold newS tr
  by_cases h : i = 10 + 10 * k + n
  · rw [if_pos h, if_pos (by omega), show i - (10 + 10 * k + 0) = n by omega]
  · rw [if_neg h]
    by_cases h2 : 10 + 10 * k + 0 ≤ i ∧ i < 10 + 10 * k + n
    · rw [if_pos h2, if_pos (by omega)]
    · rw [if_neg h2, if_neg (by omega)]
section CV
variable {ev : EV} {σ : St2} {K : PO} {c : Nat} {S : Nat → Int32}
theorem X_add {kd : Nat} (hc : CH c) (hX : XC σ c S) (hI : Inv S) (h10 : nv S 3 < 10) (hkd : kd ≤ 6) (hk : ∀ σ', Cf c σ σ' → XC σ' c (cmS S (nI kd)) → K (some (.int (nI (nv S 3)))) σ') : Rn 0 ev mC_add [.ref c, .int (nI kd)] σ K := by
  generalize hn : nv S 3 = n at *
  have e3 : σ.1 c 3 = nI n := by rw [x3 hX hI, hn]
  refine Rn_V (by decide) (rcC hc) rfl rfl ?_
  refine PW_blk okC_add 0 rfl SpX_ok ?_
  simp only [wL0, wLc, true_and, w2, lg0, lgi, lgr, lgl, w33, CH_k hc, w4, ls00, ls0i, ls0r, ls0l, lsi, lsr, lsl, Option.map_some, w1, w74, e3]
  refine b2N (lt0 (by omega)) ?_
  refine PW_blk okC_add 1 rfl SpX_ok ?_
  simp only [wL0, wLc, true_and, w1, lg0, lgi, lgr, lgl, w0, w80]
  refine b2Y (nI_lt h10 (by decide)) ?_
  refine PW_blk okC_add 3 rfl SpX_ok ?_
  simp only [wL0, wLc, true_and, w0, w4, ls00, ls0i, ls0r, ls0l, lsi, lsr, lsl, Option.map_some, w71]
  have key := lp_up (n := 10) (P := fun f => ∀ σ', Cf c σ σ' → σ'.1 c = σ.1 c → σ'.1 (c + 12) = σ.1 (c + 12) → σ'.1 (c + 13) = σ.1 (c + 13) → (∀ q g, g < 10 → q ≠ n → σ'.1 (c + 2 + g) q = σ.1 (c + 2 + g) q) → (∀ g, g < f → σ'.1 (c + 2 + g) n = cst 202 g) → PW 0 ev mC_add 19 [.ref c, .int (nI kd), .int (nI n), .int (nI f)] [] σ' K) ?_ ?_ 0 (by decide) σ Cf_r rfl rfl rfl (fun _ _ _ _ => rfl) (fun g hg => absurd hg (Nat.not_lt_zero g))
  · exact key
  · intro σ' hC ec er es eo en
    refine PW_blk okC_add 4 rfl SpX_ok ?_
    simp only [wL0, wLc, true_and, w1, lg0, lgi, lgr, lgl, w0, w81]
    refine b3N (by decide) ?_
    refine PW_blk okC_add 6 rfl SpX_ok ?_
    simp only [wL0, wLc, true_and, w2, lg0, lgi, lgr, lgl, w35, CH_k hc, CH_r0 hc, CH_t hc, CH_tn hc, w0, w42, w1, w40, w8i, w8r, w33, w11, w36, tn0, vi0_10, CH_f0 hc, CH_a0 hc, CH_n0 hc, tn1, vi1_10, CH_f1 hc, CH_a1 hc, CH_n1 hc, w84, v10 h10, c10 h10, si_is, sr1n (show c ≠ c + 2 by omega), ec, e3]
    have hC2 : Cf c σ (sr (sr σ' (c + 2) (upd (σ'.1 (c + 2)) n (nI kd))) c (upd (σ.1 c) 3 (nI n + 1))) := Cf_sr (by omega) (Cf_sr (by omega) hC)
    refine hk _ hC2 ?_
    have low : ∀ i, i < 10 → i ≠ 3 → cmS S (nI kd) i = S i := fun i hi h3 => by
      unfold cmS tr
      rw [if_neg h3, if_neg (by omega), if_neg (by omega), if_neg (by omega), if_neg (by omega)]
    have c3 : cmS S (nI kd) 3 = nI (n + 1) := by
      unfold cmS
      rw [if_pos rfl, hn]
    have n3 : nv (cmS S (nI kd)) 3 = n + 1 := nv_of c3 (by omega)
    unfold XC
    rw [sr1, n3]
    refine ⟨⟨?_, ?_, ?_, ?_, ?_⟩, fun j hj => ?_, fun i hi => ?_, fun k f hk hf => ?_⟩
    · rw [updS, c3, show (1 : Int32) = nI 1 from rfl, nI_add]
    · rw [updN (by decide), low 2 (by decide) (by decide)]; exact hX.1.2.1
    · rw [updN (by decide), low 0 (by decide) (by decide)]; exact hX.1.2.2.1
    · rw [updN (by decide), low 1 (by decide) (by decide)]; exact hX.1.2.2.2.1
    · rw [updN (by decide), low 9 (by decide) (by decide)]; exact hX.1.2.2.2.2
    · rw [sr1n (by omega), sr1n (by omega), er, low _ (by omega) (by omega)]; exact hX.2.1 j hj
    · have e : cmS S (nI kd) (110 + i) = S (110 + i) := by
        unfold cmS tr
        rw [if_neg (by omega), if_neg (by omega), if_neg (by omega), if_neg (by omega), if_neg (by omega)]
      rw [sr1n (by omega), sr1n (by omega), es, e]
      exact hX.2.2.1 i hi
    · rw [sr1n (by omega)]
      by_cases z : k = n
      · subst z
        have hcs := cst202 f hf
        have hv : cmS S (nI kd) (tr k f) = if f = 0 then nI kd else cst 202 f := by
          rw [hcs]
          unfold cmS tr
          rw [hn, if_neg (by omega)]
          by_cases f0 : f = 0
          · subst f0; rw [if_pos rfl, if_pos rfl]
          rw [if_neg (by omega), if_neg f0]
          by_cases f1 : f = 1
          · subst f1; rw [if_pos rfl, if_pos rfl]; rfl
          rw [if_neg (by omega), if_neg f1]
          by_cases f5 : f = 5
          · subst f5; rw [if_pos rfl, if_pos rfl]; rfl
          rw [if_neg (by omega), if_neg f5, if_pos (by omega)]
          rfl
        rw [hv]
        by_cases f0 : f = 0
        · subst f0
          rw [if_pos rfl, sr1, updS]
        · rw [if_neg f0, sr1n (by omega)]
          exact en f hf
      · have hv : cmS S (nI kd) (tr k f) = S (tr k f) := by
          unfold cmS tr
          rw [hn, if_neg (by omega), if_neg (by omega), if_neg (by omega), if_neg (by omega), if_neg (by omega)]
        rw [hv, ← hX.2.2.2 k f (by omega) hf, ← eo k f hf z]
        by_cases f0 : f = 0
        · subst f0
          rw [sr1, updN z]
        · rw [sr1n (by omega)]
  · intro f hf ih σ' hC ec er es eo en
    refine PW_blk okC_add 4 rfl SpX_ok ?_
    simp only [wL0, wLc, true_and, w1, lg0, lgi, lgr, lgl, w0, w81]
    refine b3Y (nI_lt hf (by decide)) ?_
    refine PW_blk okC_add 5 rfl SpX_ok ?_
    simp only [wL0, wLc, true_and, w2, lg0, lgi, lgr, lgl, w35, CH_k hc, CH_r0 hc, CH_t hc, CH_tn hc, w1, w42, w45, w44, w40, w7, ls00, ls0i, ls0r, ls0l, lsi, lsr, lsl, Option.map_some, w70, v10 h10, c10 h10, v10 hf, c10 hf, CH_fw hc hf, CH_aw hc hf, CH_nw hc hf, sg202, sn202, si_is]
    rw [show (1 : Int32) = nI 1 from rfl, nI_add]
    refine ih _ (Cf_sr (by omega) hC) (by rw [sr1n (by omega)]; exact ec) (by rw [sr1n (by omega)]; exact er) (by rw [sr1n (by omega)]; exact es) (fun q g hg hq => ?_) (fun g hg => ?_)
    · by_cases z : g = f
      · subst z; rw [sr1, updN hq]; exact eo q g hg hq
      · rw [sr1n (by omega)]; exact eo q g hg hq
    · by_cases z : g = f
      · subst z; rw [sr1, updS]
      · rw [sr1n (by omega)]; exact en g (by omega)
theorem cpy_all {n : Nat} {a b : Nat → Int32} {i : Nat} (h : i < n) : va_cpy a b 0 0 n i = a i := by
  show (if 0 ≤ i ∧ i < 0 + n then a (0 + (i - 0)) else b i) = a i
  rw [if_pos (by omega)]
  congr 1
  omega
theorem X_become {d : Nat} (hc : CH c) (hd : CH d) (hcd : c ≠ d) (hX : XC σ d S) (hn10 : nv S 3 ≤ 10) (hk : ∀ σ', Cf c σ σ' → XC σ' c S → K none σ') : Rn 0 ev mC_become [.ref c, .ref d] σ K := by
  have apart : ∀ i j, i ≤ 13 → j ≤ 13 → c + i ≠ d + j := by
    have key : ∀ c ∈ [1, 15, 29], ∀ d ∈ [1, 15, 29], c ≠ d → ∀ i, i ≤ 13 → ∀ j, j ≤ 13 → c + i ≠ d + j := by decide +kernel
    intro i j hi hj
    exact key c (by rcases hc with rfl | rfl | rfl <;> decide) d (by rcases hd with rfl | rfl | rfl <;> decide) hcd i hi j hj
  refine Rn_V (by decide) (rcC hc) rfl rfl ?_
  refine PW_blk okC_become 0 rfl SpX_ok ?_
  simp only [wL0, wLc, true_and, w0, w4, ls00, ls0i, ls0r, ls0l, lsi, lsr, lsl, Option.map_some, w71]
  have key := lp_up (n := 10) (P := fun f => ∀ σ', Cf c σ σ' → (∀ g, g < f → ∀ k, k < 10 → σ'.1 (c + 2 + g) k = σ.1 (d + 2 + g) k) → PW 0 ev mC_become 2 [.ref c, .ref d, .int (nI f)] [] σ' K) ?_ ?_ 0 (by decide) σ Cf_r (fun g hg => absurd hg (Nat.not_lt_zero g))
  · exact key
  · intro σ' hC et
    have dd : ∀ i, i ≤ 13 → σ'.1 (d + i) = σ.1 (d + i) := fun i hi => hC _ (fun z => by
      have h1 := apart (d + i - c) i (by omega) hi
      omega)
    have d0 : σ'.1 d = σ.1 d := dd 0 (by decide)
    refine PW_blk okC_become 1 rfl SpX_ok ?_
    simp only [wL0, wLc, true_and, w1, lg0, lgi, lgr, lgl, w0, w81]
    refine b3N (by decide) ?_
    have cd0 : d ≠ c := fun e => hcd e.symm
    refine PW_blk okC_become 3 rfl SpX_ok ?_
    simp only [wL0, wLc, true_and, w2, lg0, lgi, lgr, lgl, w35, CH_k hc, CH_r1 hc, CH_ru hc, CH_run hc, w0, w56, q40, q41, q42, q43, q44, CH_r2 hc, CH_sp hc, CH_spn hc, w33, w36, w87, CH_k hd, CH_r1 hd, CH_ru hd, CH_run hd, CH_r2 hd, CH_sp hd, CH_spn hd]
    exact (0 : Nat)
  · intro f hf ih σ' hC et
    have hsh : σ'.1 (d + 2 + f) = σ.1 (d + 2 + f) := hC _ (fun z => by
      have h1 := apart (d + 2 + f - c) (2 + f) (by omega) (by omega)
      omega)
    refine PW_blk okC_become 1 rfl SpX_ok ?_
    simp only [wL0, wLc, true_and, w1, lg0, lgi, lgr, lgl, w0, w81]
    refine b3Y (nI_lt hf (by decide)) ?_
    refine PW_blk okC_become 2 rfl SpX_ok ?_
    simp only [wL0, wLc, true_and, w2, lg0, lgi, lgr, lgl, w35, CH_k hc, CH_r0 hc, CH_t hc, CH_tn hc, w1, w42, w0, w56, q40, q41, q42, q43, q44, w7, ls00, ls0i, ls0r, ls0l, lsi, lsr, lsl, Option.map_some, tn0, vi0_10, CH_f0 hc, CH_a0 hc, CH_n0 hc, tn10, w70, v10 hf, c10 hf, CH_fw hc hf, CH_aw hc hf, CH_nw hc hf, CH_k hd, CH_r0 hd, CH_t hd, CH_tn hd, CH_fw hd hf, CH_aw hd hf, CH_nw hd hf]
    exact (0 : Nat)
end CV
