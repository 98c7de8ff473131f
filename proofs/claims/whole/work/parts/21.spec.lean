/-! THE ABSTRACT STATE: S, the reference's 120 ints; what class and reference both compute of it -/
def nv (S : Nat → Int32) (i : Nat) : Nat := (S i).toNatClampNeg
def rg (S : Nat → Int32) (i m : Nat) : Prop := S i = nI (nv S i) ∧ nv S i ≤ m
def tr (k f : Nat) : Nat := 10 + 10 * k + f
def InvK (S : Nat → Int32) (k : Nat) : Prop := rg S (tr k 0) 6 ∧ (rg S (tr k 1) 60 ∧ 1 ≤ nv S (tr k 1)) ∧ rg S (tr k 2) 9 ∧ rg S (tr k 3) 40 ∧ rg S (tr k 4) 3 ∧ rg S (tr k 5) 2 ∧ rg S (tr k 6) 4 ∧ rg S (tr k 7) 9 ∧ rg S (tr k 8) 1023 ∧ rg S (tr k 9) 1023
def Inv (S : Nat → Int32) : Prop := rg S 3 10 ∧ (rg S 2 1023 ∧ nv S 2 < 2 ^ nv S 3) ∧ rg S 0 299999 ∧ rg S 4 15 ∧ rg S 5 40 ∧ (rg S 6 1023 ∧ nv S 6 < 2 ^ nv S 3) ∧ rg S 7 60 ∧ rg S 8 60 ∧ (∀ k, k < nv S 3 → InvK S k) ∧ (∀ i, i < 10 → S (110 + i) = -1 ∨ ∃ k, k < nv S 3 ∧ S (110 + i) = nI k)
def pcU (x : Nat) : Nat → Nat
  | 0 => 0
  | k + 1 => pcU x k + (if x.testBit k then 1 else 0)
def pcn (x : Nat) : Nat := pcU x 10
def slU (S : Nat → Int32) (o : Nat) : Nat → Nat
  | 0 => nv S 5
  | k + 1 => slU S o k + (if o.testBit k then nv S (tr k 2) else 0)
def slackN (S : Nat → Int32) (o : Nat) : Nat := slU S o (nv S 3)
def bdU (S : Nat → Int32) (o : Nat) : Nat → Nat
  | 0 => 0
  | k + 1 => bdU S o k ||| (if o.testBit k then 0 else nv S (tr k 4))
def frN (S : Nat → Int32) (o : Nat) : Nat := 3 - bdU S o (nv S 3)
def hdN (S : Nat → Int32) (o : Nat) : Nat := pcn (frN S o)
def whyF (S : Nat → Int32) (k o : Nat) (sl hd : Int32) : Int32 :=
  if o.testBit k then 1 else if sl < S (tr k 3) then 2 else if hd < S (tr k 5) then 3 else if 0 < S (tr k 6) ∧ ¬ isInF (S 4) (S (tr k 6) - 1) = 1 then 4
  else if ¬ (S (tr k 8) &&& (nI o ^^^ -1) = 0) then 5 else if ¬ (S (tr k 9) &&& (((1 : Int32) <<< (nI k &&& 31)) ^^^ -1) &&& nI o = 0) then 6 else 0
def mayok (S : Nat → Int32) (k o : Nat) : Prop := whyF S k o (nI (slackN S o)) (nI (hdN S o)) = 0
noncomputable def mayU (S : Nat → Int32) (o : Nat) : Nat → Nat
  | 0 => 0
  | k + 1 => mayU S o k ||| (if whyF S k o (nI (slackN S o)) (nI (hdN S o)) = 0 then 2 ^ k else 0)
noncomputable def mayN (S : Nat → Int32) (o : Nat) : Nat := mayU S o (nv S 3)
def outP (S : Nat → Int32) (o : Nat) : Prop := S 6 &&& (nI o ^^^ -1) = 0
def takesN (S : Nat → Int32) (k o : Nat) : Nat :=
  let t := nv S (tr k 1)
  let rope := if slackN S o < t then t - slackN S o else 1
  let chain := t + 3 * pcn o
  let old := if 1 < chain then chain / 2 else 1
  if nv S (tr k 0) = 1 then rope else if nv S (tr k 0) = 2 then chain else if nv S (tr k 0) = 3 then old else if nv S (tr k 0) = 4 then old + 4 else if nv S (tr k 0) = 5 then rope + 2 else if nv S (tr k 0) = 6 then (if hdN S o < 2 then 2 * t else t) else t
def soundN (S : Nat → Int32) (k : Nat) : Nat :=
  let h := nv S (tr k 1) / 2
  if nv S (tr k 0) = 1 then 0 else if nv S (tr k 0) = 2 then h else if nv S (tr k 0) = 3 then h + 1 else if nv S (tr k 0) = 4 then 2 * (h + 1) else if nv S (tr k 0) = 5 then 4 else 2
def costN (S : Nat → Int32) (b k o : Nat) : Nat := if b = 0 then takesN S k o else if b = 1 then soundN S k else 1
def omin (acc r : Option Nat) (c : Nat) : Option Nat := match r with
  | none => acc
  | some v => match acc with
    | none => some (c + v)
    | some a => if c + v < a then some (c + v) else some a
noncomputable def lsU (S : Nat → Int32) (b o : Nat) (rest : Nat → Option Nat) : Nat → Option Nat
  | 0 => none
  | k + 1 => if whyF S k o (nI (slackN S o)) (nI (hdN S o)) = 0 then omin (lsU S b o rest k) (rest (o ||| 2 ^ k)) (costN S b k o) else lsU S b o rest k
noncomputable def lsF (S : Nat → Int32) (b : Nat) : Nat → Nat → Option Nat
  | 0, _ => none
  | f + 1, o => if S 6 &&& (nI o ^^^ -1) = 0 then some 0 else lsU S b o (lsF S b f) (nv S 3)
noncomputable def lst (S : Nat → Int32) (b o : Nat) : Option Nat := lsF S b (1025 - o) o
/-! numbers -/
theorem nI_sh1 : ∀ k, k < 31 → (1 : Int32) <<< (nI k &&& 31) = nI (2 ^ k) := by decide +kernel
theorem alF_n : ∀ n, n < 31 → alF (nI n) = nI (2 ^ n - 1) := by decide +kernel
theorem nI_shr {o k : Nat} (ho : o < 2 ^ 31) (hk : k < 31) : nI o >>> (nI k &&& 31) = nI (o / 2 ^ k) := pk_shrN ho _ k (s_l k (by omega))
theorem nI_and1 (n : Nat) : nI n &&& 1 = nI (n % 2) := by
  have h := fa_mask n 1
  rw [show (2 ^ 1 - 1 : Nat) = 1 from rfl, show (2 ^ 1 : Nat) = 2 from rfl] at h
  exact h
theorem isInF_n {o k : Nat} (ho : o < 2 ^ 31) (hk : k < 31) : isInF (nI o) (nI k) = if o.testBit k then 1 else 0 := by
  unfold isInF
  rw [nI_shr ho hk, nI_and1]
  have hb : o.testBit k = decide (o / 2 ^ k % 2 = 1) := by rw [Nat.testBit_eq_decide_div_mod_eq]
  rw [hb]
  rcases Nat.mod_two_eq_zero_or_one (o / 2 ^ k) with h | h <;> rw [h] <;> decide
theorem nI_not {a o : Nat} (ha : a < 1024) (ho : o < 1024) : nI a &&& (nI o ^^^ -1) = 0 ↔ a &&& o = a := by
  have e1 : nI o ^^^ -1 = nI (o ^^^ 4294967295) := by rw [show (-1 : Int32) = nI 4294967295 from by decide, nx_xor]
  rw [e1, fa_and]
  have hlt : a &&& (o ^^^ 4294967295) < 2 ^ 31 := Nat.lt_of_le_of_lt Nat.and_le_left (by omega)
  have e2 : (nI (a &&& (o ^^^ 4294967295)) = 0) ↔ (a &&& (o ^^^ 4294967295) = 0) := by
    constructor
    · intro h
      rcases Nat.eq_zero_or_pos (a &&& (o ^^^ 4294967295)) with z | z
      · exact z
      · exact absurd h (nI_ne0 z hlt)
    · intro h; rw [h]; rfl
  rw [e2]
  constructor
  · intro h
    apply Nat.eq_of_testBit_eq
    intro i
    have hi := congrArg (fun n => Nat.testBit n i) h
    simp only [Nat.testBit_and, Nat.testBit_xor, Nat.zero_testBit] at hi ⊢
    by_cases hlt : i < 32
    · have e3 : Nat.testBit 4294967295 i = true := by
        rw [show (4294967295 : Nat) = 2 ^ 32 - 1 from rfl, Nat.testBit_two_pow_sub_one]
        simp [hlt]
      rw [e3] at hi
      cases ha : a.testBit i <;> cases ho : o.testBit i <;> simp_all
    · have e4 : a.testBit i = false := Nat.testBit_lt_two_pow (Nat.lt_of_lt_of_le ha (by exact Nat.le_trans (by decide : 1024 ≤ 2 ^ 32) (Nat.pow_le_pow_right (by decide) (by omega))))
      rw [e4]; rfl
  · intro h
    apply Nat.eq_of_testBit_eq
    intro i
    have hi := congrArg (fun n => Nat.testBit n i) h
    simp only [Nat.testBit_and, Nat.testBit_xor, Nat.zero_testBit] at hi ⊢
    by_cases hlt : i < 32
    · have e3 : Nat.testBit 4294967295 i = true := by
        rw [show (4294967295 : Nat) = 2 ^ 32 - 1 from rfl, Nat.testBit_two_pow_sub_one]
        simp [hlt]
      rw [e3]
      cases ha : a.testBit i <;> cases ho : o.testBit i <;> simp_all
    · have e4 : a.testBit i = false := Nat.testBit_lt_two_pow (Nat.lt_of_lt_of_le ha (by exact Nat.le_trans (by decide : 1024 ≤ 2 ^ 32) (Nat.pow_le_pow_right (by decide) (by omega))))
      rw [e4]; rfl
theorem bit_or {o k i : Nat} : (o ||| 2 ^ k).testBit i = (o.testBit i || decide (i = k)) := by
  rw [Nat.testBit_or, Nat.testBit_two_pow]
  congr 1
  simp [eq_comm]
theorem or_gt {o k : Nat} (h : o.testBit k = false) : o < o ||| 2 ^ k := by
  have h1 : o ≤ o ||| 2 ^ k := Nat.left_le_or
  rcases Nat.lt_or_ge o (o ||| 2 ^ k) with z | z
  · exact z
  · have e : o = o ||| 2 ^ k := Nat.le_antisymm h1 z
    have : (o ||| 2 ^ k).testBit k = true := by rw [bit_or]; simp
    rw [← e, h] at this
    cases this
theorem or_lt {o k n : Nat} (ho : o < 2 ^ n) (hk : k < n) : o ||| 2 ^ k < 2 ^ n := Nat.or_lt_two_pow ho (Nat.pow_lt_pow_right (by decide) hk)
theorem pcU_le (x : Nat) : ∀ k, pcU x k ≤ k
  | 0 => Nat.le_refl _
  | k + 1 => by have := pcU_le x k; unfold pcU; split <;> omega
theorem pcn_le (x : Nat) : pcn x ≤ 10 := pcU_le x 10
theorem pcn_drop : ∀ l, l < 1024 → 0 < l → pcn (l &&& (l - 1)) + 1 = pcn l ∧ l &&& (l - 1) < 1024 := by decide +kernel
theorem pcn_0 : pcn 0 = 0 := by decide
theorem p2le : ∀ n, n ≤ 10 → 2 ^ n ≤ 1024 := by decide +kernel
theorem lt31 {n m : Nat} (h : n ≤ m) (hm : m < 2147483648 := by decide) : n < 2 ^ 31 := Nat.lt_of_le_of_lt h hm
/-! bounds -/
section SB
variable {S : Nat → Int32}
theorem rg_of {i m n : Nat} (h : S i = nI n) (hm : n ≤ m) (h31 : m < 2147483648 := by decide) : rg S i m := by
  have e : nv S i = n := by unfold nv; rw [h]; exact nI_clamp (lt31 hm h31)
  exact ⟨by rw [e]; exact h, by rw [e]; exact hm⟩
theorem nv_of {i n : Nat} (h : S i = nI n) (hn : n < 2 ^ 31) : nv S i = n := by unfold nv; rw [h]; exact nI_clamp hn
theorem slU_le (h : Inv S) (o : Nat) : ∀ k, k ≤ nv S 3 → slU S o k ≤ 40 + 9 * k := by
  intro k
  induction k with
  | zero => intro _; exact h.2.2.2.2.1.2
  | succ k ih =>
    intro hk
    have h1 := ih (by omega)
    have h2 := (h.2.2.2.2.2.2.2.2.1 k (by omega)).2.2.1.2
    unfold slU
    split <;> omega
theorem slack_le (h : Inv S) (o : Nat) : slackN S o ≤ 130 := by
  have h1 := slU_le h o (nv S 3) (Nat.le_refl _)
  have h2 := h.1.2
  unfold slackN
  omega
theorem bdU_lt (h : Inv S) (o : Nat) : ∀ k, k ≤ nv S 3 → bdU S o k < 4 := by
  intro k
  induction k with
  | zero => intro _; exact (by decide : 0 < 4)
  | succ k ih =>
    intro hk
    have h1 := ih (by omega)
    have h2 := (h.2.2.2.2.2.2.2.2.1 k (by omega)).2.2.2.2.1.2
    unfold bdU
    refine Nat.or_lt_two_pow (n := 2) h1 ?_
    split
    · decide
    · show _ < 4; omega
theorem frN_lt (S : Nat → Int32) (o : Nat) : frN S o < 4 := by unfold frN; omega
theorem hdN_le (S : Nat → Int32) (o : Nat) : hdN S o ≤ 10 := pcn_le _
theorem takes_le (h : Inv S) {k o : Nat} (hk : k < nv S 3) : takesN S k o ≤ 130 ∧ 1 ≤ takesN S k o := by
  obtain ⟨h0, ⟨h1, h1'⟩, -⟩ := h.2.2.2.2.2.2.2.2.1 k hk
  have h2 := h1.2
  have h3 := pcn_le o
  unfold takesN
  dsimp only
  repeat' split
  all_goals omega
theorem sound_le (h : Inv S) {k : Nat} (hk : k < nv S 3) : soundN S k ≤ 130 := by
  obtain ⟨h0, ⟨h1, h1'⟩, -⟩ := h.2.2.2.2.2.2.2.2.1 k hk
  have h2 := h1.2
  unfold soundN
  dsimp only
  repeat' split
  all_goals omega
theorem cost_le (h : Inv S) {b k o : Nat} (hk : k < nv S 3) : costN S b k o ≤ 130 := by
  unfold costN
  split
  · exact (takes_le h hk).1
  · split
    · exact sound_le h hk
    · decide
theorem why_bit {k o : Nat} {sl hd : Int32} (h : whyF S k o sl hd = 0) : o.testBit k = false := by
  unfold whyF at h
  cases e : o.testBit k with
  | false => rfl
  | true => rw [e, if_pos rfl] at h; exact absurd h (by decide)
theorem lsU_cong {b o : Nat} {r r' : Nat → Option Nat} : ∀ n, (∀ k, k < n → whyF S k o (nI (slackN S o)) (nI (hdN S o)) = 0 → r (o ||| 2 ^ k) = r' (o ||| 2 ^ k)) → lsU S b o r n = lsU S b o r' n
  | 0, _ => rfl
  | n + 1, h => by
    have ih := lsU_cong (b := b) n (fun k hk => h k (by omega))
    unfold lsU
    rw [ih]
    split
    next hw => rw [h n (by omega) hw]
    next => rfl
theorem lsF_fuel (hn : nv S 3 ≤ 10) {b : Nat} : ∀ f f' o, o < 1024 → 1025 - o ≤ f → 1025 - o ≤ f' → lsF S b f o = lsF S b f' o := by
  intro f
  induction f with
  | zero => intro f' o h1 h2; omega
  | succ f ih =>
    intro f' o h1 h2 h3
    cases f' with
    | zero => omega
    | succ f' =>
      unfold lsF
      split
      · rfl
      · refine lsU_cong _ (fun k hk hw => ?_)
        have hb := why_bit hw
        have h4 := or_gt hb
        have h5 : o ||| 2 ^ k < 2 ^ 10 := or_lt h1 (by omega)
        exact ih f' _ h5 (by omega) (by omega)
theorem lst_eq (hn : nv S 3 ≤ 10) {b o : Nat} (ho : o < 1024) : lst S b o = if S 6 &&& (nI o ^^^ -1) = 0 then some 0 else lsU S b o (lst S b) (nv S 3) := by
  unfold lst
  rw [show 1025 - o = (1024 - o) + 1 by omega]
  show (if _ then some 0 else lsU S b o (lsF S b (1024 - o)) (nv S 3)) = _
  split
  · rfl
  · refine lsU_cong _ (fun k hk hw => ?_)
    have hb := why_bit hw
    have h4 := or_gt hb
    have h5 : o ||| 2 ^ k < 2 ^ 10 := or_lt ho (by omega)
    exact lsF_fuel hn _ _ _ h5 (by omega) (by omega)
theorem omin_le {acc r : Option Nat} {c B : Nat} (h1 : ∀ v, acc = some v → v ≤ B) (h2 : ∀ v, r = some v → c + v ≤ B) : ∀ v, omin acc r c = some v → v ≤ B := by
  intro v h
  unfold omin at h
  split at h
  · exact h1 v h
  · split at h
    · cases h; exact h2 _ rfl
    · split at h
      · cases h; exact h2 _ rfl
      · cases h; exact h1 _ rfl
theorem lst_le (h : Inv S) {b : Nat} : ∀ (f o : Nat), o < 1024 → 1024 - o ≤ f → ∀ v, lst S b o = some v → v ≤ 130 * (1024 - o) := by
  intro f
  induction f with
  | zero => intro o h1 h2; omega
  | succ f ih =>
    intro o h1 h2
    have hn := h.1.2
    rw [lst_eq hn h1]
    split
    · intro v hv; cases hv; omega
    · have key : ∀ n, n ≤ nv S 3 → ∀ v, lsU S b o (lst S b) n = some v → v ≤ 130 * (1024 - o) := by
        intro n
        induction n with
        | zero => intro _ v hv; cases hv
        | succ n ih2 =>
          intro hn2
          unfold lsU
          split
          next hw =>
            refine omin_le (ih2 (by omega)) (fun v hv => ?_)
            have hb := why_bit hw
            have h4 := or_gt hb
            have h5 : o ||| 2 ^ n < 2 ^ 10 := or_lt h1 (by omega)
            have h6 := ih _ h5 (by omega) v hv
            have h7 := cost_le h (b := b) (k := n) (o := o) (by omega)
            omega
          next => exact ih2 (by omega)
      exact key _ (Nat.le_refl _)
theorem lst_lt (h : Inv S) {b o v : Nat} (ho : o < 1024) (hv : lst S b o = some v) : v ≤ 133120 := by
  have := lst_le h (1024 - o) o ho (Nat.le_refl _) v hv
  omega
end SB
