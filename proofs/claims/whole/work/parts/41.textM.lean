/-! the reference reads words, items, a text -/
def vUw (l : List Nat) : Nat → Nat
  | 0 => 0
  | k + 1 => if l.getD k 32 = 32 then vUw l k else vUw l k * 27 + (l.getD k 32 - 96)
def hlL (l : List Nat) : Nat → Nat
  | 0 => 0
  | k + 1 => hlL l k * 27 + (l.getD k 0 - 96)
def wfine (l : List Nat) : Prop := (l.length ≤ 6 ∧ vUw l 6 = hlL l l.length ∧ hlL l l.length ≤ 99999999999) ∧ (∀ k, k < l.length → 97 ≤ l.getD k 0 ∧ l.getD k 0 ≤ 122) ∧ (∀ x, x ∈ l → x < 256) ∧ (∀ k, k < 6 → l.getD k 32 ≤ 122 ∧ (l.getD k 32 = 32 ∨ 97 ≤ l.getD k 32) ∧ vUw l k ≤ 99999999999)
theorem wfK : ∀ w, w < 7 → wfine (wK w) := by unfold wfine; decide +kernel
theorem wfO : ∀ w, w < 6 → wfine (wO w) := by unfold wfine; decide +kernel
theorem wfR : ∀ w, w < 3 → wfine (wR w) := by unfold wfine; decide +kernel
theorem wuK : ∀ v, v < 7 → ∀ w, w < 7 → wK v = wK w → v = w := by decide +kernel
theorem wuO : ∀ v, v < 6 → ∀ w, w < 6 → wO v = wO w → v = w := by decide +kernel
theorem wuR : ∀ v, v < 3 → ∀ w, w < 3 → wR v = wR w → v = w := by decide +kernel
theorem hs_eq {T : Nat → Int32} {b : Nat} {l : List Nat} : ∀ i n, (∀ k, k < i → isLt (T (b + k)) = true) → (∀ k, k < n → 97 ≤ l.getD k 0 ∧ l.getD k 0 ≤ 122) → hlL l n ≤ 99999999999 → (hsU T b i = hlL l n ↔ i = n ∧ ∀ k, k < n → T (b + k) = nI (l.getD k 0))
  | 0, 0, _, _, _ => ⟨fun _ => ⟨rfl, fun k hk => absurd hk (Nat.not_lt_zero k)⟩, fun _ => rfl⟩
  | 0, n + 1, _, h2, _ => by
    have := h2 n (by omega)
    constructor
    · intro z
      have z2 : 0 = hlL l n * 27 + (l.getD n 0 - 96) := z
      omega
    · intro z; exact absurd z.1 (by omega)
  | i + 1, n, h1, h2, h3 => by
    obtain ⟨x, x1, x2, x3⟩ := isLt_n.mp (h1 i (by omega))
    have ex : dgN (T (b + i)) = x := by unfold dgN; rw [x3]; exact nI_clamp (by omega)
    cases n with
    | zero =>
      constructor
      · intro z
        unfold hsU at z
        rw [ex] at z
        have z2 : (if 99999999999 < hsU T b i then hsU T b i else hsU T b i * 27 + (x - 96)) = 0 := z
        split at z2 <;> omega
      · intro z; exact absurd z.1 (by omega)
    | succ m =>
      have hm := h2 m (by omega)
      have h3' : hlL l m * 27 + (l.getD m 0 - 96) ≤ 99999999999 := h3
      have ih := hs_eq i m (fun k hk => h1 k (by omega)) (fun k hk => h2 k (by omega)) (by omega)
      unfold hsU
      rw [ex]
      show (if 99999999999 < hsU T b i then hsU T b i else hsU T b i * 27 + (x - 96)) = hlL l m * 27 + (l.getD m 0 - 96) ↔ _
      by_cases c : 99999999999 < hsU T b i
      · rw [if_pos c]
        constructor
        · intro z; omega
        · intro z
          have := ih.mpr ⟨by omega, fun k hk => z.2 k (by omega)⟩
          omega
      · rw [if_neg c]
        constructor
        · intro z
          have z1 : hsU T b i = hlL l m := by omega
          have z2 : x = l.getD m 0 := by omega
          obtain ⟨e, q⟩ := ih.mp z1
          refine ⟨by omega, fun k hk => ?_⟩
          by_cases e2 : k = m
          · subst e2; subst e; rw [x3, z2]
          · exact q k (by omega)
        · intro z
          obtain ⟨e, q⟩ := z
          have e : i = m := by omega
          have z1 := ih.mpr ⟨e, fun k hk => q k (by omega)⟩
          have z2 := q m (by omega)
          subst e
          rw [x3, nI_eq_iff (by omega) (by omega)] at z2
          omega
def tkv (T : Nat → Int32) (τ : Nat) (tk : Tk) : Prop := ∃ p, p ≤ τ ∧ tk = tok T τ p
theorem tkv_lt {T : Nat → Int32} {τ : Nat} {tk : Tk} (h : tkv T τ tk) (h1 : tk.1 = 1) : tk.2.1 < tk.2.2.1 ∧ ∀ i, tk.2.1 ≤ i → i < tk.2.2.1 → isLt (T i) = true := by
  obtain ⟨p, hp, e⟩ := h
  subst e
  unfold tok tokB at *
  have h2 := run_le2 (P := isSp) (T := T) hp
  generalize run isSp T τ p = b at *
  by_cases c0 : τ ≤ b
  · rw [if_pos c0] at h1; exact absurd h1 (show ¬ (0 : Nat) = 1 by decide)
  rw [if_neg c0] at h1 ⊢
  by_cases c1 : isLt (T b) = true
  · rw [if_pos c1] at h1 ⊢
    refine ⟨?_, fun i a d => (run_in a d).2⟩
    show b < run isLt T τ b
    rw [run_y (by omega) c1]
    exact run_le
  rw [if_neg c1] at h1
  by_cases c2 : isDg (T b) = true
  · rw [if_pos c2] at h1
    have h1' : (if 1023 < nvU T b (run isDg T τ b - b) then 4 else 2) = 1 := h1
    split at h1' <;> exact absurd h1' (by decide)
  · rw [if_neg c2] at h1
    have h1' : (if T b = 59 then 3 else 4) = 1 := h1
    split at h1' <;> exact absurd h1' (by decide)
theorem isW_hs {T : Nat → Int32} {τ : Nat} {tk : Tk} {l : List Nat} (h : tkv T τ tk) (h1 : tk.1 = 1) (hl : wfine l) : hsU T tk.2.1 (tk.2.2.1 - tk.2.1) = vUw l 6 ↔ isW T tk.2.1 tk.2.2.1 l := by
  obtain ⟨a, b⟩ := tkv_lt h h1
  rw [hl.1.2.1, hs_eq _ _ (fun k hk => b _ (by omega) (by omega)) hl.2.1 hl.1.2.2]
  unfold isW
  constructor
  · intro z; exact ⟨by omega, z.2⟩
  · intro z; exact ⟨by omega, z.2⟩
/-- the words of the reference's three rows -/
def WdI (C : Nat → Int32) (n : Nat) (wd : Nat → List Nat) : Prop := ∀ w, w < n → ∀ k, k < 6 → C (6 * w + k) = nI ((wd w).getD k 32)
def LtI (σ : St2) : Prop := WdI (σ.1 9) 7 wK ∧ WdI (σ.1 10) 6 wO ∧ WdI (σ.1 11) 3 wR ∧ ∀ w, w < 6 → σ.1 12 w = nI (fldO w)
def Tkn (T : Nat → Int32) (τ : Nat) (tk : Tk) (σ : St2) : Prop := (σ.1 8 = T ∧ σ.1 0 11 = nI τ) ∧ tkv T τ tk ∧ σ.1 0 12 = nI tk.1 ∧ σ.1 0 13 = nI tk.2.1 ∧ σ.1 0 14 = nI tk.2.2.1 ∧ okv T tk (σ.2 0 15)
def Tz (σ σ' : St2) : Prop := ∃ a b c v, σ' = tkS σ a b c v
theorem Tz_r {σ : St2} : Tz σ σ := ⟨_, _, _, _, ts_self.symm⟩
theorem Tz_t {σ σ' σ'' : St2} (h : Tz σ σ') (h2 : Tz σ' σ'') : Tz σ σ'' := by
  obtain ⟨a, b, c, v, e⟩ := h
  obtain ⟨a', b', c', v', e'⟩ := h2
  subst e
  subst e'
  exact ⟨_, _, _, _, ts_ts⟩
theorem Tz_sr {σ σ' : St2} {k : Nat} {r : Nat → Int32} (h0 : k ≠ 0) (h : Tz σ σ') : Tz (sr σ k r) (sr σ' k r) := by
  obtain ⟨a, b, c, v, e⟩ := h
  subst e
  exact ⟨_, _, _, _, sr_ts h0⟩
theorem Tz_k {σ σ' : St2} {k : Nat} (h0 : k ≠ 0) (h : Tz σ σ') : σ'.1 k = σ.1 k := by
  obtain ⟨a, b, c, v, e⟩ := h
  subst e
  exact ts_k h0
theorem Tz_11 {σ σ' : St2} (h : Tz σ σ') : σ'.1 0 11 = σ.1 0 11 := by
  obtain ⟨a, b, c, v, e⟩ := h
  subst e
  exact ts11
theorem LtI_z {σ σ' : St2} (h : Tz σ σ') (hL : LtI σ) : LtI σ' := by
  unfold LtI at *
  rw [Tz_k (by decide) h, Tz_k (by decide) h, Tz_k (by decide) h, Tz_k (by decide) h]
  exact hL
theorem LtI_sr {σ : St2} {r : Nat → Int32} (hL : LtI σ) : LtI (sr σ 1 r) := hL
theorem Tkn_sr {T : Nat → Int32} {τ : Nat} {tk : Tk} {σ : St2} {r : Nat → Int32} (h : Tkn T τ tk σ) : Tkn T τ tk (sr σ 1 r) := h
/-- a lock more -/
theorem Inv_cm {S : Nat → Int32} {kd : Nat} (hI : Inv S) (h10 : nv S 3 < 10) (hk : kd ≤ 6) : Inv (cmS S (nI kd)) ∧ nv (cmS S (nI kd)) 3 = nv S 3 + 1 := by
  have e3 : cmS S (nI kd) 3 = nI (nv S 3 + 1) := if_pos rfl
  have n3 : nv (cmS S (nI kd)) 3 = nv S 3 + 1 := nv_of e3 (by omega)
  have low : ∀ i, i < 10 → i ≠ 3 → cmS S (nI kd) i = S i := fun i hi h3 => by
    unfold cmS tr
    rw [if_neg h3, if_neg (by omega), if_neg (by omega), if_neg (by omega), if_neg (by omega)]
  have lown : ∀ i, i < 10 → i ≠ 3 → nv (cmS S (nI kd)) i = nv S i := fun i hi h3 => by unfold nv; rw [low i hi h3]
  have lowr : ∀ i m, i < 10 → i ≠ 3 → rg S i m → rg (cmS S (nI kd)) i m := fun i m hi h3 hr => by
    unfold rg
    rw [low i hi h3, lown i hi h3]
    exact hr
  have old : ∀ k f, k < nv S 3 → f < 10 → cmS S (nI kd) (tr k f) = S (tr k f) := fun k f hk hf => by
    unfold cmS tr
    rw [if_neg (by omega), if_neg (by omega), if_neg (by omega), if_neg (by omega), if_neg (by omega)]
  have new : ∀ f n, f < 10 → (f = 0 → n = kd) → (f = 1 → n = 10) → (f = 5 → n = 1) → (f ≠ 0 → f ≠ 1 → f ≠ 5 → n = 0) → cmS S (nI kd) (tr (nv S 3) f) = nI n := fun f n hf h0 h1 h5 hr => by
    unfold cmS tr
    rw [if_neg (by omega)]
    by_cases c0 : f = 0
    · subst c0; rw [if_pos rfl, h0 rfl]
    rw [if_neg (by omega)]
    by_cases c1 : f = 1
    · subst c1; rw [if_pos rfl, h1 rfl]; rfl
    rw [if_neg (by omega)]
    by_cases c5 : f = 5
    · subst c5; rw [if_pos rfl, h5 rfl]; rfl
    rw [if_neg (by omega), if_pos (by omega), hr c0 c1 c5]
    rfl
  have hp : 2 ^ nv S 3 ≤ 2 ^ (nv S 3 + 1) := Nat.pow_le_pow_right (by decide) (by omega)
  obtain ⟨a, ⟨b, b'⟩, c, d, e, ⟨f, f'⟩, g, h, i, j⟩ := hI
  refine ⟨⟨rg_of e3 (by omega), ⟨lowr _ _ (by decide) (by decide) b, by rw [n3, lown _ (by decide) (by decide)]; omega⟩, lowr _ _ (by decide) (by decide) c, lowr _ _ (by decide) (by decide) d, lowr _ _ (by decide) (by decide) e, ⟨lowr _ _ (by decide) (by decide) f, by rw [n3, lown _ (by decide) (by decide)]; omega⟩, lowr _ _ (by decide) (by decide) g, lowr _ _ (by decide) (by decide) h, ?_, ?_⟩, n3⟩
  · rw [n3]
    intro k hk2
    by_cases ek : k = nv S 3
    · subst ek
      have r : ∀ f n m, f < 10 → (f = 0 → n = kd) → (f = 1 → n = 10) → (f = 5 → n = 1) → (f ≠ 0 → f ≠ 1 → f ≠ 5 → n = 0) → n ≤ m → m < 2147483648 → rg (cmS S (nI kd)) (tr (nv S 3) f) m := fun f n m hf h0 h1 h5 hr hm hm2 => rg_of (new f n hf h0 h1 h5 hr) hm hm2
      refine ⟨r 0 kd 6 (by decide) (fun _ => rfl) (by omega) (by omega) (by omega) hk (by decide), ⟨r 1 10 60 (by decide) (by omega) (fun _ => rfl) (by omega) (by omega) (by decide) (by decide), ?_⟩, r 2 0 9 (by decide) (by omega) (by omega) (by omega) (by omega) (by decide) (by decide), r 3 0 40 (by decide) (by omega) (by omega) (by omega) (by omega) (by decide) (by decide), r 4 0 3 (by decide) (by omega) (by omega) (by omega) (by omega) (by decide) (by decide), r 5 1 2 (by decide) (by omega) (by omega) (fun _ => rfl) (by omega) (by decide) (by decide), r 6 0 4 (by decide) (by omega) (by omega) (by omega) (by omega) (by decide) (by decide), r 7 0 9 (by decide) (by omega) (by omega) (by omega) (by omega) (by decide) (by decide), r 8 0 1023 (by decide) (by omega) (by omega) (by omega) (by omega) (by decide) (by decide), r 9 0 1023 (by decide) (by omega) (by omega) (by omega) (by omega) (by decide) (by decide)⟩
      rw [nv_of (new 1 10 (by decide) (by omega) (fun _ => rfl) (by omega) (by omega)) (by decide)]
      decide
    · have hk3 := i k (by omega)
      unfold InvK rg nv at *
      rw [old k 0 (by omega) (by decide), old k 1 (by omega) (by decide), old k 2 (by omega) (by decide), old k 3 (by omega) (by decide), old k 4 (by omega) (by decide), old k 5 (by omega) (by decide), old k 6 (by omega) (by decide), old k 7 (by omega) (by decide), old k 8 (by omega) (by decide), old k 9 (by omega) (by decide)]
      exact hk3
  · rw [n3]
    intro q hq
    have e : cmS S (nI kd) (110 + q) = S (110 + q) := by
      unfold cmS tr
      rw [if_neg (by omega), if_neg (by omega), if_neg (by omega), if_neg (by omega), if_neg (by omega)]
    rw [e]
    rcases j q hq with z | ⟨k, z1, z2⟩
    · exact Or.inl z
    · exact Or.inr ⟨k, by omega, z2⟩
section MT
variable {ev : EV} {σ : St2} {K : PO}
theorem R_wordOf {c n : Nat} {wd : Nat → List Nat} {T : Nat → Int32} {τ : Nat} {tk : Tk} (kc : (c < nC 1 ∧ (shp 1 c).1 = 101) = True) (nc : (shp 1 c).2 = 6 * n) (hn1 : 1 ≤ n) (hn : n ≤ 7) (hw : ∀ w, w < n → wfine (wd w)) (hW : WdI (σ.1 c) n wd) (hT : Tkn T τ tk σ) (hk : K (some (.int (eB (whW wd T tk n)))) σ) : Rn 1 ev mM_wordOf [.ref 0, .ref c] σ K := by
  obtain ⟨-, htv, h12, -, -, hv⟩ := hT
  have ht4 : tk.1 ≤ 4 := by
    obtain ⟨p, hp, e⟩ := htv
    rw [e]
    exact (tok_ok hp).2.2.2.2.1
  have kc2 : (c < nC 1 ∧ ((shp 1 c).1 = 100 ∨ (shp 1 c).1 = 101)) = True := eq_true ⟨(of_eq_true kc).1, Or.inr (of_eq_true kc).2⟩
  have ediv : nI (6 * n) / 6 = nI n := by
    rw [show (6 : Int32) = nI 6 from rfl, pk_div (by omega) (by decide) (by decide), Nat.mul_div_cancel_left _ (by decide)]
  refine Rn_V (by decide) rc6 rfl rfl ?_
  refine PW_blk okM_wordOf 0 rfl SpM_ok ?_
  simp only [wL0, wLc, true_and, w0, w4, ls00, ls0i, ls0r, ls0l, lsi, lsr, lsl, Option.map_some, w71]
  have key := lp_up (n := n) (P := fun w => PW 1 ev mM_wordOf 4 [.ref 0, .ref c, .int (eB (whW wd T tk w)), .int (nI w)] [] σ K) ?_ ?_ 0 (Nat.zero_le _)
  · exact key
  · refine PW_blk okM_wordOf 1 rfl SpM_ok ?_
    simp only [wL0, wLc, true_and, w1, lg0, lgi, lgr, lgl, w2, w43, w0, w14, w81, kc2, nc, ediv]
    refine ⟨by decide, ?_⟩
    refine b3N (nI_nlt (Nat.le_refl _) (by omega)) ?_
    refine PW_blk okM_wordOf 13 rfl SpM_ok ?_
    simp only [wL0, wLc, true_and, w1, lg0, lgi, lgr, lgl, w84]
    exact hk
  · intro w hwn ih
    have hwf := hw w hwn
    refine PW_blk okM_wordOf 1 rfl SpM_ok ?_
    simp only [wL0, wLc, true_and, w1, lg0, lgi, lgr, lgl, w2, w43, w0, w14, w81, kc2, nc, ediv]
    refine ⟨by decide, ?_⟩
    refine b3Y (nI_lt hwn (by omega)) ?_
    refine PW_blk okM_wordOf 2 rfl SpM_ok ?_
    simp only [wL0, wLc, true_and, w2, lg0, lgi, lgr, lgl, w33, kM0, w0, w79, h12]
    rw [show (1 : Int32) = nI 1 from rfl, nI_eq_iff (by omega) (by decide)]
    by_cases c1 : tk.1 = 1
    rotate_left
    · refine b3N c1 ?_
      refine PW_blk okM_wordOf 13 rfl SpM_ok ?_
      simp only [wL0, wLc, true_and, w1, lg0, lgi, lgr, lgl, w84]
      rw [whW_n n (fun w' _ z => c1 z.1)] at hk
      rw [whW_n w (fun w' _ z => c1 z.1)]
      exact hk
    refine b3Y c1 ?_
    refine PW_blk okM_wordOf 3 rfl SpM_ok ?_
    simp only [wL0, wLc, true_and, w53, w6, ls00, ls0i, ls0r, ls0l, lsi, lsr, lsl, Option.map_some, w0, w4, w71]
    have k2 := lp_up (n := 6) (P := fun k => PW 1 ev mM_wordOf 27 [.ref 0, .ref c, .int (eB (whW wd T tk w)), .int (nI w), .long (lN (vUw (wd w) k)), .int (nI k)] [] σ K) ?_ ?_ 0 (by decide)
    · exact k2
    · refine PW_blk okM_wordOf 4 rfl SpM_ok ?_
      simp only [wL0, wLc, true_and, w1, lg0, lgi, lgr, lgl, w0, w81]
      refine b3N (by decide) ?_
      refine PW_blk okM_wordOf 9 rfl SpM_ok ?_
      simp only [wL0, wLc, true_and, w3, lg0, lgi, lgr, lgl, w2, w34, kM0, w27, w73]
      rw [hv.1 c1]
      obtain ⟨q1, q2⟩ := tkv_lt htv c1
      have hle := hsU_le (T := T) (b := tk.2.1) (tk.2.2.1 - tk.2.1) (fun k hk2 => q2 _ (by omega) (by omega))
      have hle2 : vUw (wd w) 6 ≤ 99999999999 := by rw [hwf.1.2.1]; exact hwf.1.2.2
      rw [cmp_z (by omega) (by omega), eq_comm, isW_hs htv c1 hwf]
      have e : whW wd T tk (w + 1) = cif (tk.1 = 1 ∧ isW T tk.2.1 tk.2.2.1 (wd w)) (some w) (whW wd T tk w) := rfl
      have next : ∀ x, x = eB (whW wd T tk (w + 1)) → PW 1 ev mM_wordOf 97 [.ref 0, .ref c, .int (eB (whW wd T tk w)), .int (nI w), .long (lN (vUw (wd w) 6)), .int (nI 6)] [.int x] σ K := by
        intro x hx
        subst hx
        refine PW_blk okM_wordOf 12 rfl SpM_ok ?_
        simp only [wL0, wLc, true_and, w4, ls00, ls0i, ls0r, ls0l, lsi, lsr, lsl, Option.map_some, w7, lg0, lgi, lgr, lgl, w70]
        refine PW_loc 4 ?_
        rw [show (1 : Int32) = nI 1 from rfl, nI_add]
        exact ih
      by_cases c2 : isW T tk.2.1 tk.2.2.1 (wd w)
      · refine b3Y c2 ?_
        refine PW_blk okM_wordOf 10 rfl SpM_ok ?_
        simp only [wL0, wLc, true_and, w1, lg0, lgi, lgr, lgl, w70]
        refine next _ ?_
        rw [e, cif_y ⟨c1, c2⟩]
        rfl
      · refine b3N c2 ?_
        refine PW_blk okM_wordOf 11 rfl SpM_ok ?_
        simp only [wL0, wLc, true_and, w1, lg0, lgi, lgr, lgl, w71]
        refine next _ ?_
        rw [e, cif_n (fun z => c2 z.2)]
    · intro k hk6 ih2
      have hv2 : vp_in (nI (6 * w + k)) (6 * n) := vp_in_nI (by omega) (by omega)
      have cl2 : (nI (6 * w + k)).toNatClampNeg = 6 * w + k := nI_clamp (by omega)
      have e6 : (6 : Int32) * nI w + nI k = nI (6 * w + k) := by rw [show (6 : Int32) = nI 6 from rfl, pk_mul, nI_add]
      obtain ⟨f1, f2, f3⟩ := hwf.2.2.2 k hk6
      have ev2 : vUw (wd w) (k + 1) = if (wd w).getD k 32 = 32 then vUw (wd w) k else vUw (wd w) k * 27 + ((wd w).getD k 32 - 96) := rfl
      rw [ev2] at ih2
      refine PW_blk okM_wordOf 4 rfl SpM_ok ?_
      simp only [wL0, wLc, true_and, w1, lg0, lgi, lgr, lgl, w0, w81]
      refine b3Y (nI_lt hk6 (by decide)) ?_
      refine PW_blk okM_wordOf 5 rfl SpM_ok ?_
      simp only [wL0, wLc, true_and, w2, lg0, lgi, lgr, lgl, w0, w1, w13, w11, w41, tn6, w79, e6, kc, nc, eq_true hv2, cl2, hW w hwn k hk6]
      rw [show (32 : Int32) = nI 32 from rfl, nI_eq_iff (by omega) (by decide)]
      by_cases c3 : (wd w).getD k 32 = 32
      · rw [if_pos c3] at ih2
        refine b3Y c3 ?_
        refine PW_blk okM_wordOf 6 rfl SpM_ok ?_
        simp only [wL0, wLc, true_and, w3, lg0, lgi, lgr, lgl, w70]
        refine PW_blk okM_wordOf 8 rfl SpM_ok ?_
        simp only [wL0, wLc, true_and, w6, ls00, ls0i, ls0r, ls0l, lsi, lsr, lsl, Option.map_some, w7, lg0, lgi, lgr, lgl, w70]
        rw [show (1 : Int32) = nI 1 from rfl, nI_add]
        exact ih2
      · rw [if_neg c3] at ih2
        refine b3N c3 ?_
        refine PW_blk okM_wordOf 7 rfl SpM_ok ?_
        simp only [wL0, wLc, true_and, w3, lg0, lgi, lgr, lgl, w53, w24, w2, w0, w1, w13, w11, w41, w28, w22, w23, tn6, w71, e6, kc, nc, eq_true hv2, cl2, hW w hwn k hk6]
        rw [nI_l (by omega), lN_mul, lN_add, lN_sub (by omega)]
        refine PW_blk okM_wordOf 8 rfl SpM_ok ?_
        simp only [wL0, wLc, true_and, w6, ls00, ls0i, ls0r, ls0l, lsi, lsr, lsl, Option.map_some, w7, lg0, lgi, lgr, lgl, w70]
        rw [show (1 : Int32) = nI 1 from rfl, nI_add, show vUw (wd w) k * 27 + (wd w).getD k 32 - 96 = vUw (wd w) k * 27 + ((wd w).getD k 32 - 96) by omega]
        exact ih2
theorem R_next {T : Nat → Int32} {τ : Nat} {tk : Tk} (hτ : τ ≤ 120) (hT : Tkn T τ tk σ) (hk : ∀ σ', Tz σ σ' → Tkn T τ (tok T τ tk.2.2.1) σ' → K none σ') : Rn 1 ev mM_nextToken [.ref 0] σ K := by
  obtain ⟨⟨h8, h11⟩, ⟨p, hp, e⟩, h12, h13, h14, hv⟩ := hT
  have hle : tk.2.2.1 ≤ τ := by rw [e]; exact (tok_ok hp).2.2.1
  refine R_nextToken h14 h11 hτ hle (fun v hv2 => ?_)
  rw [h8] at hv2 ⊢
  exact hk _ ⟨_, _, _, _, rfl⟩ ⟨⟨by rw [ts_8]; exact h8, by rw [ts11]; exact h11⟩, ⟨_, hle, rfl⟩, ts12, ts13, ts14, by rw [ts15]; exact hv2⟩
theorem R_takesNumber {T : Nat → Int32} {τ a m : Nat} {tk : Tk} (hτ : τ ≤ 120) (ha : a < 1024) (hm : m < 1024) (hT : Tkn T τ tk σ) (h1 : tk.1 = 2 → a ≤ tk.2.2.2 → tk.2.2.2 ≤ m → ∀ σ', Tz σ σ' → Tkn T τ (tok T τ tk.2.2.1) σ' → K (some (.int (nI tk.2.2.2))) σ') (h2 : ¬ (tk.1 = 2 ∧ a ≤ tk.2.2.2 ∧ tk.2.2.2 ≤ m) → K (some (.int (-1))) σ) : Rn 1 ev mM_takesNumber [.ref 0, .int (nI a), .int (nI m)] σ K := by
  have hT' := hT
  obtain ⟨⟨h8, h11⟩, ⟨p, hp, e⟩, h12, h13, h14, hv⟩ := hT'
  have ht4 : tk.1 ≤ 4 := by rw [e]; exact (tok_ok hp).2.2.2.2.1
  have hnv : tk.2.2.2 ≤ 1024 := by rw [e]; exact (tok_ok hp).2.2.2.1
  refine Rn_V (by decide) rc6 rfl rfl ?_
  refine PW_blk okM_takesNumber 0 rfl SpM_ok ?_
  simp only [wL0, wLc, true_and, w2, lg0, lgi, lgr, lgl, w33, kM0, w0, w79, h12]
  rw [show (2 : Int32) = nI 2 from rfl, nI_eq_iff (by omega) (by decide)]
  have no : ¬ (tk.1 = 2 ∧ a ≤ tk.2.2.2 ∧ tk.2.2.2 ≤ m) → PW 1 ev mM_takesNumber 29 [.ref 0, .int (nI a), .int (nI m)] [] σ K := by
    intro z
    refine PW_blk okM_takesNumber 3 rfl SpM_ok ?_
    simp only [wL0, wLc, true_and, w0, w71]
    refine PW_blk okM_takesNumber 4 rfl SpM_ok ?_
    simp only [wL0, wLc, true_and, w4, ls00, ls0i, ls0r, ls0l, lsi, lsr, lsl, Option.map_some, w1, lg0, lgi, lgr, lgl, w74]
    refine b2Y (by decide) ?_
    refine PW_blk okM_takesNumber 6 rfl SpM_ok ?_
    simp only [wL0, wLc, true_and, w1, lg0, lgi, lgr, lgl, w84]
    exact h2 z
  by_cases c1 : tk.1 = 2
  rotate_left
  · exact b3N c1 (no (fun z => c1 z.1))
  refine b3Y c1 ?_
  have ev2 := hv.2 c1
  refine PW_blk okM_takesNumber 1 rfl SpM_ok ?_
  simp only [wL0, wLc, true_and, w2, lg0, lgi, lgr, lgl, w34, kM0, w29, w1, w55_3, q40, q41, q42, q43, q44, Option.toList_some, Option.toList_none, List.cons_append, List.nil_append, sp_in1, w72, ev2, lN_i]
  by_cases c2 : a ≤ tk.2.2.2 ∧ tk.2.2.2 ≤ m
  rotate_left
  · refine bN (in1N (by omega) (by omega) (fun ⟨n, z1, z2, z3⟩ => c2 ?_)) (no (fun z => c2 z.2))
    rw [nI_eq_iff (by omega) (by omega)] at z3
    rw [z3]
    exact ⟨z1, z2⟩
  refine bY (in1Y (by omega) ⟨_, c2.1, c2.2, rfl⟩) ?_
  refine PW_blk okM_takesNumber 2 rfl SpM_ok ?_
  simp only [wL0, wLc, true_and, w2, lg0, lgi, lgr, lgl, w34, kM0, w29, w70, ev2, lN_i]
  refine PW_blk okM_takesNumber 4 rfl SpM_ok ?_
  simp only [wL0, wLc, true_and, w4, ls00, ls0i, ls0r, ls0l, lsi, lsr, lsl, Option.map_some, w1, lg0, lgi, lgr, lgl, w74]
  refine b2N (lt0 (by omega)) ?_
  refine PW_blk okM_takesNumber 5 rfl SpM_ok ?_
  simp only [wL0, wLc, true_and, w2, lg0, lgi, lgr, lgl, w54_1, q40, q41, q42, q43, q44, Option.toList_some, Option.toList_none, List.cons_append, List.nil_append, w71]
  refine R_next hτ hT (fun σ' hz hT2 => ?_)
  simp only [wL0, wLc, true_and, w2, lg0, lgi, lgr, lgl, w54_1, q40, q41, q42, q43, q44, Option.toList_some, Option.toList_none, List.cons_append, List.nil_append, w71]
  refine PW_blk okM_takesNumber 6 rfl SpM_ok ?_
  simp only [wL0, wLc, true_and, w1, lg0, lgi, lgr, lgl, w84]
  exact h1 c1 c2.1 c2.2 σ' hz hT2
end MT
