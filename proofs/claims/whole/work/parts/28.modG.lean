/-! rows counted from a set on: what comes to each set, set by set -/
noncomputable def cif {α : Type} (p : Prop) (a b : α) : α := @ite α p (Classical.propDecidable p) a b
theorem cif_y {α : Type} {p : Prop} {a b : α} (h : p) : cif p a b = a := if_pos h
theorem cif_n {α : Type} {p : Prop} {a b : α} (h : ¬ p) : cif p a b = b := if_neg h
noncomputable def fwK (ok : Nat → Nat → Prop) (W : Nat → Nat) (s m t : Nat) : Nat := W t + cif (∃ k, k < m ∧ t = s ||| 2 ^ k ∧ ok s k) (W s) 0
noncomputable def fw (ok : Nat → Nat → Prop) (fr : Nat) : Nat → Nat → Nat
  | 0 => fun t => if t = fr then 1 else 0
  | s + 1 => fwK ok (fw ok fr s) s 10
def okp (ok : Nat → Nat → Prop) : Prop := ∀ s k, ok s k → s.testBit k = false ∧ k < 10
section FW
variable {ok : Nat → Nat → Prop} {fr : Nat} {W : Nat → Nat}
theorem fwK_0 {s : Nat} : fwK ok W s 0 = W := by
  funext t
  unfold fwK
  rw [cif_n (fun ⟨k, h, _⟩ => absurd h (Nat.not_lt_zero k))]
  rfl
theorem or_inj {s a b : Nat} (ha : s.testBit a = false) (h : s ||| 2 ^ a = s ||| 2 ^ b) : a = b := by
  have h2 := congrArg (fun x => Nat.testBit x a) h
  simp only [bit_or, ha, Bool.false_or] at h2
  by_cases e : a = b
  · exact e
  · simp [e] at h2
theorem fwK_s (ho : okp ok) {s m t : Nat} : fwK ok W s (m + 1) t = fwK ok W s m t + cif (ok s m ∧ t = s ||| 2 ^ m) (W s) 0 := by
  unfold fwK
  by_cases h : ok s m ∧ t = s ||| 2 ^ m
  · rw [cif_y ⟨m, Nat.lt_succ_self m, h.2, h.1⟩, cif_n, cif_y h, Nat.add_zero]
    intro ⟨k, h1, h2, h3⟩
    have := or_inj (ho s m h.1).1 (h.2.symm.trans h2)
    omega
  · rw [cif_n h, Nat.add_zero]
    have e : (∃ k, k < m + 1 ∧ t = s ||| 2 ^ k ∧ ok s k) ↔ (∃ k, k < m ∧ t = s ||| 2 ^ k ∧ ok s k) := by
      constructor
      · intro ⟨k, h1, h2, h3⟩
        by_cases e : k = m
        · subst e; exact absurd ⟨h3, h2⟩ h
        · exact ⟨k, by omega, h2, h3⟩
      · intro ⟨k, h1, h2, h3⟩
        exact ⟨k, by omega, h2, h3⟩
    by_cases h4 : ∃ k, k < m ∧ t = s ||| 2 ^ k ∧ ok s k
    · rw [cif_y h4, cif_y (e.mpr h4)] <;> rfl
    · rw [cif_n h4, cif_n (fun z => h4 (e.mp z))] <;> rfl
theorem fwK_low (ho : okp ok) {s m t : Nat} (h : t ≤ s) : fwK ok W s m t = W t := by
  unfold fwK
  rw [cif_n]
  · rfl
  intro ⟨k, h1, h2, h3⟩
  have := or_gt (ho s k h3).1
  omega
theorem fwK_ext {s m m' : Nat} (h : ∀ k, ok s k → (k < m ↔ k < m')) : fwK ok W s m = fwK ok W s m' := by
  funext t
  unfold fwK
  have e : (∃ k, k < m ∧ t = s ||| 2 ^ k ∧ ok s k) ↔ (∃ k, k < m' ∧ t = s ||| 2 ^ k ∧ ok s k) := by
    constructor
    · intro ⟨k, h1, h2, h3⟩; exact ⟨k, (h k h3).mp h1, h2, h3⟩
    · intro ⟨k, h1, h2, h3⟩; exact ⟨k, (h k h3).mpr h1, h2, h3⟩
  by_cases h4 : ∃ k, k < m ∧ t = s ||| 2 ^ k ∧ ok s k
  · rw [cif_y h4, cif_y (e.mp h4)]
  · rw [cif_n h4, cif_n (fun z => h4 (e.mpr z))]
theorem fwK_zero {s m : Nat} (h : W s = 0) : fwK ok W s m = W := by
  funext t
  unfold fwK
  rw [h]
  by_cases z : ∃ k, k < m ∧ t = s ||| 2 ^ k ∧ ok s k
  · rw [cif_y z]; rfl
  · rw [cif_n z]; rfl
theorem fwK_le {s m t : Nat} : W t ≤ fwK ok W s m t := by unfold fwK; exact Nat.le_add_right _ _
theorem fw_mono {s s' t : Nat} (h : s ≤ s') : fw ok fr s t ≤ fw ok fr s' t := by
  induction s' with
  | zero => rw [show s = 0 by omega]; exact Nat.le_refl _
  | succ s' ih =>
    by_cases e : s = s' + 1
    · subst e; exact Nat.le_refl _
    · exact Nat.le_trans (ih (by omega)) fwK_le
theorem fw_stab (ho : okp ok) {s s' t : Nat} (h : t ≤ s) (h2 : s ≤ s') : fw ok fr s' t = fw ok fr s t := by
  induction s' with
  | zero => rw [show s = 0 by omega]
  | succ s' ih =>
    by_cases e : s = s' + 1
    · subst e; rfl
    · rw [← ih (by omega)]
      exact fwK_low ho (by omega)
/-- who was come to, and over whom -/
theorem fw_from {s t : Nat} (h : fw ok fr s t ≠ 0) : t = fr ∨ ∃ p k, p < s ∧ t = p ||| 2 ^ k ∧ ok p k ∧ fw ok fr p p ≠ 0 := by
  induction s with
  | zero =>
    left
    by_cases e : t = fr
    · exact e
    · exact absurd (if_neg e) h
  | succ s ih =>
    have h2 : fw ok fr s t + cif (∃ k, k < 10 ∧ t = s ||| 2 ^ k ∧ ok s k) (fw ok fr s s) 0 ≠ 0 := h
    by_cases e : fw ok fr s t = 0
    · rw [e, Nat.zero_add] at h2
      by_cases e2 : ∃ k, k < 10 ∧ t = s ||| 2 ^ k ∧ ok s k
      · rw [cif_y e2] at h2
        obtain ⟨k, -, a, b⟩ := e2
        exact Or.inr ⟨s, k, Nat.lt_succ_self s, a, b, h2⟩
      · rw [cif_n e2] at h2
        exact absurd rfl h2
    · rcases ih e with h3 | ⟨p, k, a, b⟩
      · exact Or.inl h3
      · exact Or.inr ⟨p, k, by omega, b⟩
theorem fw_to (ho : okp ok) {p k : Nat} (hk : ok p k) (h : fw ok fr p p ≠ 0) : fw ok fr (p ||| 2 ^ k) (p ||| 2 ^ k) ≠ 0 := by
  have h1 : fw ok fr (p + 1) (p ||| 2 ^ k) = fw ok fr p (p ||| 2 ^ k) + cif (∃ j, j < 10 ∧ p ||| 2 ^ k = p ||| 2 ^ j ∧ ok p j) (fw ok fr p p) 0 := rfl
  rw [cif_y ⟨k, (ho p k hk).2, rfl, hk⟩] at h1
  have h2 := or_gt (ho p k hk).1
  have h3 := fw_mono (ok := ok) (fr := fr) (t := p ||| 2 ^ k) (s := p + 1) (s' := p ||| 2 ^ k) h2
  omega
theorem fw_ind (ho : okp ok) {P : Nat → Prop} (h0 : P fr) (hs : ∀ p k, ok p k → fw ok fr p p ≠ 0 → P p → P (p ||| 2 ^ k)) : ∀ n t, t ≤ n → fw ok fr t t ≠ 0 → P t := by
  intro n
  induction n with
  | zero =>
    intro t ht h
    rcases fw_from h with e | ⟨p, k, a, b, c, d⟩
    · rw [e]; exact h0
    · omega
  | succ n ih =>
    intro t ht h
    rcases fw_from h with e | ⟨p, k, a, b, c, d⟩
    · rw [e]; exact h0
    · rw [b]
      exact hs p k c d (ih p (by omega) d)
theorem sub_or {a b k : Nat} (h : a &&& b = a) : a &&& (b ||| 2 ^ k) = a := by
  rw [Nat.and_or_distrib_left, h]
  apply Nat.eq_of_testBit_eq
  intro j
  rw [Nat.testBit_or, Nat.testBit_and]
  cases a.testBit j <;> simp
theorem fw_sub (ho : okp ok) {t : Nat} (h : fw ok fr t t ≠ 0) : fr &&& t = fr := fw_ind ho (P := fun t => fr &&& t = fr) (Nat.and_self _) (fun _ _ _ _ h => sub_or h) t t (Nat.le_refl _) h
theorem fw_lt (ho : okp ok) {n t : Nat} (hn : ∀ s k, ok s k → k < n) (hf : fr < 2 ^ n) (h : fw ok fr t t ≠ 0) : t < 2 ^ n := fw_ind ho (P := fun t => t < 2 ^ n) hf (fun p k hk _ h => or_lt h (hn p k hk)) t t (Nat.le_refl _) h
theorem fw_first {s : Nat} (ho : okp ok) (h : s ≤ fr) : fw ok fr s = fw ok fr 0 := by
  induction s with
  | zero => rfl
  | succ s ih =>
    have e := ih (by omega)
    show fwK ok (fw ok fr s) s 10 = _
    rw [fwK_zero, e]
    rw [e]
    exact if_neg (by omega)
theorem fw_last {n s : Nat} (ho : okp ok) (hn : ∀ s k, ok s k → k < n) (hf : fr < 2 ^ n) (h : 2 ^ n ≤ s) : fw ok fr s = fw ok fr (2 ^ n) := by
  induction s with
  | zero => rw [show 2 ^ n = 0 by omega]
  | succ s ih =>
    by_cases e : 2 ^ n = s + 1
    · rw [e]
    · have e2 := ih (by omega)
      show fwK ok (fw ok fr s) s 10 = _
      rw [fwK_zero, e2]
      rcases Nat.eq_zero_or_pos (fw ok fr s s) with z | z
      · exact z
      · have := fw_lt ho hn hf (t := s) (by omega)
        omega
def fac : Nat → Nat
  | 0 => 1
  | n + 1 => (n + 1) * fac n
theorem fac_pos : ∀ n, 1 ≤ fac n
  | 0 => Nat.le_refl _
  | n + 1 => Nat.mul_pos (Nat.succ_pos n) (fac_pos n)
theorem fac_mono {a b : Nat} (h : a ≤ b) : fac a ≤ fac b := by
  induction b with
  | zero => rw [show a = 0 by omega]; exact Nat.le_refl _
  | succ b ih =>
    by_cases e : a = b + 1
    · rw [e]; exact Nat.le_refl _
    · exact Nat.le_trans (ih (by omega)) (Nat.le_mul_of_pos_left _ (Nat.succ_pos b))
/-- over how many of its bits below m t is come to from a set below s -/
noncomputable def cnU (s t : Nat) : Nat → Nat
  | 0 => 0
  | m + 1 => cnU s t m + cif (∃ p, p < s ∧ p.testBit m = false ∧ t = p ||| 2 ^ m) 1 0
theorem cnU_le (s t : Nat) : ∀ m, cnU s t m ≤ pcU t m
  | 0 => Nat.le_refl _
  | m + 1 => by
    have := cnU_le s t m
    unfold cnU pcU
    by_cases h : ∃ p, p < s ∧ p.testBit m = false ∧ t = p ||| 2 ^ m
    · have e2 : t.testBit m = true := by
        obtain ⟨p, -, -, e⟩ := h
        rw [e, bit_or]; simp
      rw [cif_y h, if_pos e2]; omega
    · rw [cif_n h]; omega
theorem cnU_mono (s t : Nat) : ∀ m, cnU s t m ≤ cnU (s + 1) t m
  | 0 => Nat.le_refl _
  | m + 1 => by
    have := cnU_mono s t m
    unfold cnU
    by_cases h : ∃ p, p < s ∧ p.testBit m = false ∧ t = p ||| 2 ^ m
    · have h2 : ∃ p, p < s + 1 ∧ p.testBit m = false ∧ t = p ||| 2 ^ m := by
        obtain ⟨p, a, b⟩ := h
        exact ⟨p, by omega, b⟩
      rw [cif_y h, cif_y h2]; omega
    · rw [cif_n h]; omega
theorem or_inj2 {s p k : Nat} (hs : s.testBit k = false) (hp : p.testBit k = false) (h : s ||| 2 ^ k = p ||| 2 ^ k) : s = p := by
  apply Nat.eq_of_testBit_eq
  intro i
  have h2 := congrArg (fun x => Nat.testBit x i) h
  simp only [bit_or] at h2
  by_cases e : i = k
  · subst e; rw [hs, hp]
  · simpa [e] using h2
theorem cnU_up {s k : Nat} (h : s.testBit k = false) : ∀ m, k < m → cnU s (s ||| 2 ^ k) m + 1 ≤ cnU (s + 1) (s ||| 2 ^ k) m
  | 0, hk => by omega
  | m + 1, hk => by
    have hm := cnU_mono s (s ||| 2 ^ k) m
    unfold cnU
    by_cases e : k = m
    · subst e
      rw [cif_n (fun ⟨p, a, b, c⟩ => by have := or_inj2 h b c; omega), cif_y ⟨s, Nat.lt_succ_self s, h, rfl⟩]
      omega
    · have ih := cnU_up h m (by omega)
      by_cases c : ∃ p, p < s ∧ p.testBit m = false ∧ s ||| 2 ^ k = p ||| 2 ^ m
      · have c2 : ∃ p, p < s + 1 ∧ p.testBit m = false ∧ s ||| 2 ^ k = p ||| 2 ^ m := by
          obtain ⟨p, a, b⟩ := c
          exact ⟨p, by omega, b⟩
        rw [cif_y c, cif_y c2]; omega
      · rw [cif_n c]; omega
theorem fw_bnd0 (ho : okp ok) {s : Nat} (hs : s < 1024) (hf : fr < 1024) (h : ∀ t, t < 1024 → t ≠ fr → fw ok fr s t ≤ cnU s t 10 * fac (pcn t - 1)) : fw ok fr s s ≤ fac (pcn s) := by
  by_cases e : s = fr
  · subst e
    have e2 : fw ok s s s = 1 := by rw [fw_first ho (Nat.le_refl _)]; exact if_pos rfl
    rw [e2]; exact fac_pos _
  · have h1 := h s hs e
    have h2 := cnU_le s s 10
    rcases Nat.eq_zero_or_pos (pcn s) with z | z
    · have h3 : cnU s s 10 = 0 := by unfold pcn at z; omega
      rw [h3, Nat.zero_mul] at h1
      omega
    · obtain ⟨p, hp⟩ : ∃ p, pcn s = p + 1 := ⟨pcn s - 1, by omega⟩
      have h4 : cnU s s 10 ≤ p + 1 := by unfold pcn at hp; omega
      rw [hp] at h1 ⊢
      exact Nat.le_trans h1 (Nat.mul_le_mul_right _ h4)
theorem fw_bnd (ho : okp ok) (hf : fr < 1024) : ∀ s, s ≤ 1024 → ∀ t, t < 1024 → t ≠ fr → fw ok fr s t ≤ cnU s t 10 * fac (pcn t - 1)
  | 0, _, t, _, h => by
    have : fw ok fr 0 t = 0 := if_neg h
    omega
  | s + 1, hs, t, ht, h => by
    have ih := fw_bnd ho hf s (by omega)
    have hss := fw_bnd0 ho (by omega) hf ih
    have h1 := ih t ht h
    show fw ok fr s t + cif (∃ k, k < 10 ∧ t = s ||| 2 ^ k ∧ ok s k) (fw ok fr s s) 0 ≤ _
    by_cases e : ∃ k, k < 10 ∧ t = s ||| 2 ^ k ∧ ok s k
    · rw [cif_y e]
      obtain ⟨k, hk, e1, e2⟩ := e
      have hb := (ho s k e2).1
      have hc := cnU_up hb 10 hk
      have hp := pcn_or hk hb
      rw [← e1] at hc hp
      have e3 : pcn t - 1 = pcn s := by omega
      rw [e3] at h1 ⊢
      have h5 : (cnU s t 10 + 1) * fac (pcn s) ≤ cnU (s + 1) t 10 * fac (pcn s) := Nat.mul_le_mul_right _ hc
      rw [Nat.add_mul, Nat.one_mul] at h5
      omega
    · rw [cif_n e]
      have h5 := Nat.mul_le_mul_right (fac (pcn t - 1)) (cnU_mono s t 10)
      omega
theorem fw_small (ho : okp ok) (hf : fr < 1024) {t : Nat} (ht : t < 1024) : fw ok fr t t ≤ 3628800 := by
  have h1 := fw_bnd0 ho ht hf (fw_bnd ho hf t (by omega))
  have h2 := fac_mono (pcn_le t)
  have h3 : fac 10 = 3628800 := by decide
  omega
end FW
