/-! THE TAPE: words of a text, read from a place on -/
def runU (P : Int32 → Bool) (T : Nat → Int32) (τ : Nat) : Nat → Nat → Nat
  | 0, p => p
  | f + 1, p => if p < τ ∧ P (T p) = true then runU P T τ f (p + 1) else p
def run (P : Int32 → Bool) (T : Nat → Int32) (τ p : Nat) : Nat := runU P T τ (τ - p) p
theorem run_y {P : Int32 → Bool} {T : Nat → Int32} {τ p : Nat} (h : p < τ) (hp : P (T p) = true) : run P T τ p = run P T τ (p + 1) := by
  unfold run
  rw [show τ - p = (τ - (p + 1)) + 1 by omega]
  exact if_pos ⟨h, hp⟩
theorem run_n {P : Int32 → Bool} {T : Nat → Int32} {τ p : Nat} (h : ¬ (p < τ ∧ P (T p) = true)) : run P T τ p = p := by
  unfold run
  cases e : τ - p with
  | zero => rfl
  | succ f => exact if_neg h
theorem runU_le {P : Int32 → Bool} {T : Nat → Int32} {τ : Nat} : ∀ f p, p ≤ runU P T τ f p ∧ (p ≤ τ → runU P T τ f p ≤ τ)
  | 0, p => ⟨Nat.le_refl _, fun h => h⟩
  | f + 1, p => by
    have ih := runU_le (P := P) (T := T) (τ := τ) f (p + 1)
    unfold runU
    by_cases h : p < τ ∧ P (T p) = true
    · rw [if_pos h]; exact ⟨by omega, fun _ => ih.2 (by omega)⟩
    · rw [if_neg h]; exact ⟨Nat.le_refl _, fun h => h⟩
theorem run_le {P : Int32 → Bool} {T : Nat → Int32} {τ p : Nat} : p ≤ run P T τ p := (runU_le _ _).1
theorem run_le2 {P : Int32 → Bool} {T : Nat → Int32} {τ p : Nat} (h : p ≤ τ) : run P T τ p ≤ τ := (runU_le _ _).2 h
theorem runU_in {P : Int32 → Bool} {T : Nat → Int32} {τ : Nat} : ∀ f p i, p ≤ i → i < runU P T τ f p → i < τ ∧ P (T i) = true
  | 0, p, i, h, h2 => absurd h2 (by unfold runU; omega)
  | f + 1, p, i, h, h2 => by
    unfold runU at h2
    by_cases c : p < τ ∧ P (T p) = true
    · rw [if_pos c] at h2
      by_cases e : i = p
      · subst e; exact c
      · exact runU_in f (p + 1) i (by omega) h2
    · rw [if_neg c] at h2
      omega
theorem run_in {P : Int32 → Bool} {T : Nat → Int32} {τ p i : Nat} (h : p ≤ i) (h2 : i < run P T τ p) : i < τ ∧ P (T i) = true := runU_in _ _ _ h h2
def isSp (x : Int32) : Bool := x == 32
def isLt (x : Int32) : Bool := in1F x 97 122 == 1
def isDg (x : Int32) : Bool := in1F x 48 57 == 1
def dgN (x : Int32) : Nat := x.toNatClampNeg
def nvU (T : Nat → Int32) (b : Nat) : Nat → Nat
  | 0 => 0
  | i + 1 => if 10 * nvU T b i + (dgN (T (b + i)) - 48) < 1024 then 10 * nvU T b i + (dgN (T (b + i)) - 48) else 1024
theorem nvU_le (T : Nat → Int32) (b : Nat) : ∀ i, nvU T b i ≤ 1024
  | 0 => Nat.zero_le _
  | i + 1 => by unfold nvU; split <;> omega
theorem isLt_n {x : Int32} : isLt x = true ↔ ∃ n, 97 ≤ n ∧ n ≤ 122 ∧ x = nI n := by
  unfold isLt
  rw [beq_iff_eq]
  constructor
  · intro h
    refine Classical.byContradiction (fun c => ?_)
    rw [show (97 : Int32) = nI 97 from rfl, show (122 : Int32) = nI 122 from rfl, in1N (by decide) (by decide) c] at h
    exact absurd h (by decide)
  · intro h
    exact in1Y (a := 97) (m := 122) (by decide) h
theorem isDg_n {x : Int32} : isDg x = true ↔ ∃ n, 48 ≤ n ∧ n ≤ 57 ∧ x = nI n := by
  unfold isDg
  rw [beq_iff_eq]
  constructor
  · intro h
    refine Classical.byContradiction (fun c => ?_)
    rw [show (48 : Int32) = nI 48 from rfl, show (57 : Int32) = nI 57 from rfl, in1N (by decide) (by decide) c] at h
    exact absurd h (by decide)
  · intro h
    exact in1Y (a := 48) (m := 57) (by decide) h
/-- the token from p on: its sort, where it begins, where it ends, its number -/
abbrev Tk : Type := Nat × Nat × Nat × Nat
def tokB (T : Nat → Int32) (τ b : Nat) : Tk :=
  if τ ≤ b then (0, b, b, 0) else if isLt (T b) = true then (1, b, run isLt T τ b, 0)
  else if isDg (T b) = true then (if 1023 < nvU T b (run isDg T τ b - b) then 4 else 2, b, run isDg T τ b, nvU T b (run isDg T τ b - b))
  else (if T b = 59 then 3 else 4, b, b + 1, 0)
def tok (T : Nat → Int32) (τ p : Nat) : Tk := tokB T τ (run isSp T τ p)
theorem tok_ok {T : Nat → Int32} {τ p : Nat} (hp : p ≤ τ) : p ≤ (tok T τ p).2.1 ∧ (tok T τ p).2.1 ≤ (tok T τ p).2.2.1 ∧ (tok T τ p).2.2.1 ≤ τ ∧ (tok T τ p).2.2.2 ≤ 1024 ∧ (tok T τ p).1 ≤ 4 ∧ ((tok T τ p).1 = 3 → (tok T τ p).2.1 < (tok T τ p).2.2.1) ∧ ((tok T τ p).1 = 2 → (tok T τ p).2.2.2 ≤ 1023) := by
  have h1 := run_le (P := isSp) (T := T) (τ := τ) (p := p)
  have h2 := run_le2 (P := isSp) (T := T) hp
  unfold tok tokB
  generalize run isSp T τ p = b at *
  have h3 := run_le (P := isLt) (T := T) (τ := τ) (p := b)
  have h4 := run_le2 (P := isLt) (T := T) h2
  have h5 := run_le (P := isDg) (T := T) (τ := τ) (p := b)
  have h6 := run_le2 (P := isDg) (T := T) h2
  have h7 := nvU_le T b (run isDg T τ b - b)
  by_cases c0 : τ ≤ b
  · rw [if_pos c0]
    dsimp only
    refine ⟨h1, Nat.le_refl _, h2, Nat.zero_le _, Nat.zero_le _, fun z => absurd z (by decide), fun z => absurd z (by decide)⟩
  rw [if_neg c0]
  by_cases c1 : isLt (T b) = true
  · rw [if_pos c1]
    dsimp only
    refine ⟨h1, h3, h4, Nat.zero_le _, by decide, fun z => absurd z (by decide), fun z => absurd z (by decide)⟩
  rw [if_neg c1]
  by_cases c2 : isDg (T b) = true
  · rw [if_pos c2]
    by_cases c3 : 1023 < nvU T b (run isDg T τ b - b)
    · rw [if_pos c3]
      dsimp only
      exact ⟨h1, h5, h6, h7, Nat.le_refl _, fun z => absurd z (by decide), fun z => absurd z (by decide)⟩
    · rw [if_neg c3]
      dsimp only
      exact ⟨h1, h5, h6, h7, by decide, fun z => absurd z (by decide), fun _ => by show nvU T b (run isDg T τ b - b) ≤ 1023; omega⟩
  rw [if_neg c2]
  by_cases c4 : T b = 59
  · rw [if_pos c4]
    dsimp only
    exact ⟨h1, Nat.le_succ _, by show b + 1 ≤ τ; omega, Nat.zero_le _, by decide, fun _ => Nat.lt_succ_self _, fun z => absurd z (by decide)⟩
  · rw [if_neg c4]
    dsimp only
    exact ⟨h1, Nat.le_succ _, by show b + 1 ≤ τ; omega, Nat.zero_le _, Nat.le_refl _, fun z => absurd z (by decide), fun z => absurd z (by decide)⟩
/-- does this word stand from b to e? -/
def isW (T : Nat → Int32) (b e : Nat) (l : List Nat) : Prop := e = b + l.length ∧ ∀ i, i < l.length → T (b + i) = nI (l.getD i 0)
def wK (w : Nat) : List Nat := if w = 0 then [108, 111, 99, 107] else if w = 1 then [114, 111, 112, 101] else if w = 2 then [99, 104, 97, 105, 110] else if w = 3 then [111, 108, 100] else if w = 4 then [114, 117, 115, 116, 101, 100] else if w = 5 then [110, 97, 105, 108] else [98, 111, 108, 116]
def wO (w : Nat) : List Nat := if w = 0 then [116, 105, 109, 101] else if w = 1 then [103, 105, 118, 101, 115] else if w = 2 then [119, 97, 110, 116, 115] else if w = 3 then [98, 105, 110, 100, 115] else if w = 4 then [104, 97, 110, 100, 115] else [97, 102, 116, 101, 114]
def wR (w : Nat) : List Nat := if w = 0 then [116, 111, 111, 108, 115] else if w = 1 then [115, 112, 97, 114, 101] else [103, 111, 97, 108]
def fldO (w : Nat) : Nat := if w = 0 then 1 else if w = 1 then 2 else if w = 2 then 3 else if w = 3 then 4 else if w = 4 then 5 else 8
/-- which of the first n words stands here: the last that does -/
noncomputable def whW (wd : Nat → List Nat) (T : Nat → Int32) (tk : Tk) : Nat → Option Nat
  | 0 => none
  | w + 1 => cif (tk.1 = 1 ∧ isW T tk.2.1 tk.2.2.1 (wd w)) (some w) (whW wd T tk w)
theorem isW_u {T : Nat → Int32} {b e : Nat} {l l' : List Nat} (hl : ∀ x ∈ l, x < 256) (hl' : ∀ x ∈ l', x < 256) (h : isW T b e l) (h' : isW T b e l') : l = l' := by
  have e1 : l.length = l'.length := by have := h.1; have := h'.1; omega
  apply List.ext_getElem e1
  intro i h1 h2
  have a := h.2 i h1
  have c := h'.2 i h2
  rw [a] at c
  have x1 : l.getD i 0 = l[i] := by simp [List.getD, h1]
  have x2 : l'.getD i 0 = l'[i] := by simp [List.getD, h2]
  rw [x1, x2] at c
  have y1 := hl l[i] (List.getElem_mem h1)
  have y2 := hl' l'[i] (List.getElem_mem h2)
  exact (nI_eq_iff (by omega) (by omega)).mp c
theorem whW_y {wd : Nat → List Nat} {T : Nat → Int32} {tk : Tk} {w : Nat} : ∀ n, w < n → (∀ v, v < n → ∀ x ∈ wd v, x < 256) → (∀ v v', v < n → v' < n → wd v = wd v' → v = v') → tk.1 = 1 → isW T tk.2.1 tk.2.2.1 (wd w) → whW wd T tk n = some w
  | 0, h, _, _, _, _ => by omega
  | n + 1, h, h1, h2, h3, h4 => by
    unfold whW
    by_cases c : isW T tk.2.1 tk.2.2.1 (wd n)
    · rw [cif_y ⟨h3, c⟩]
      rw [h2 w n h (Nat.lt_succ_self n) (isW_u (h1 w h) (h1 n (Nat.lt_succ_self n)) h4 c)]
    · rw [cif_n (fun z => c z.2)]
      have e : w ≠ n := fun e => c (e ▸ h4)
      exact whW_y n (by omega) (fun v hv => h1 v (by omega)) (fun v v' a b => h2 v v' (by omega) (by omega)) h3 h4
theorem whW_n {wd : Nat → List Nat} {T : Nat → Int32} {tk : Tk} : ∀ n, (∀ w, w < n → ¬ (tk.1 = 1 ∧ isW T tk.2.1 tk.2.2.1 (wd w))) → whW wd T tk n = none
  | 0, _ => rfl
  | n + 1, h => by
    unfold whW
    rw [cif_n (h n (Nat.lt_succ_self n))]
    exact whW_n n (fun w hw => h w (by omega))
theorem whW_b {wd : Nat → List Nat} {T : Nat → Int32} {tk : Tk} {w : Nat} : ∀ n, whW wd T tk n = some w → w < n ∧ tk.1 = 1 ∧ isW T tk.2.1 tk.2.2.1 (wd w)
  | 0, h => by cases h
  | n + 1, h => by
    unfold whW at h
    by_cases c : tk.1 = 1 ∧ isW T tk.2.1 tk.2.2.1 (wd n)
    · rw [cif_y c] at h
      cases h
      exact ⟨Nat.lt_succ_self _, c⟩
    · rw [cif_n c] at h
      have := whW_b n h
      exact ⟨by omega, this.2⟩
abbrev RR : Type := Bool × (Nat → Int32) × Tk
def mostO (S : Nat → Int32) (o1 f : Nat) : Nat := if f = 8 then o1 else mostN S f
noncomputable def rdO (T : Nat → Int32) (τ k o1 : Nat) : Nat → Nat → (Nat → Int32) → Tk → RR
  | 0, _, S, tk => (true, S, tk)
  | f + 1, i, S, tk => cif (tk.1 = 1 ∧ isW T tk.2.1 tk.2.2.1 (wO i))
      (cif ((tok T τ tk.2.2.1).1 = 2 ∧ leastN (fldO i) ≤ (tok T τ tk.2.2.1).2.2.2 ∧ (tok T τ tk.2.2.1).2.2.2 ≤ mostO S o1 (fldO i))
        (rdO T τ k o1 f (i + 1) (upd S (tr k (fldO i)) (nI (tok T τ tk.2.2.1).2.2.2)) (tok T τ (tok T τ tk.2.2.1).2.2.1))
        (false, S, tok T τ tk.2.2.1))
      (rdO T τ k o1 f (i + 1) S tk)
noncomputable def rdL (T : Nat → Int32) (τ : Nat) (S : Nat → Int32) (tk : Tk) (kd : Nat) : RR :=
  if nv S 3 = 10 then (false, S, tk) else rdO T τ (nv S 3) (2 ^ nv S 3 - 1) 6 0 (cmS S (nI kd)) (tok T τ tk.2.2.1)
noncomputable def rdI (T : Nat → Int32) (τ : Nat) (S : Nat → Int32) (tk : Tk) : RR := match whW wK T tk 7 with
  | some kd => rdL T τ S tk kd
  | none => match whW wR T tk 3 with
    | none => (false, S, tk)
    | some w => cif ((tok T τ tk.2.2.1).1 = 2 ∧ (tok T τ tk.2.2.1).2.2.2 ≤ mostR S w)
        (true, upd S (4 + w) (nI (tok T τ tk.2.2.1).2.2.2), tok T τ (tok T τ tk.2.2.1).2.2.1)
        (false, S, tok T τ tk.2.2.1)
/-- a whole text: n items were read ahead of this one; the answer, below 0: a fault -/
noncomputable def rdT (T : Nat → Int32) (τ : Nat) : Nat → Nat → (Nat → Int32) → Tk → Int32 × (Nat → Int32)
  | 0, _, S, _ => (0, S)
  | f + 1, n, S, tk => let r := rdI T τ S tk
    if r.1 = true ∧ r.2.2.1 = 3 then rdT T τ f (n + 1) r.2.1 (tok T τ r.2.2.2.2.1)
    else if r.1 = true ∧ r.2.2.1 = 0 then (nI (n + 1), r.2.1) else (-1 - nI r.2.2.2.1, r.2.1)
