/-! the reference's table of the least ways off; its rows of picks -/
def encF (r : Option Nat) : Int32 := match r with
  | none => 99999999
  | some v => nI v
theorem encF_lt {v : Nat} (h : v ≤ 200000) : nI v < 99999999 := by
  rw [show (99999999 : Int32) = nI 99999999 from rfl, nI_lt_iff (by omega) (by decide)]
  omega
theorem encF_omin {acc : Option Nat} {v c : Nat} (ha : ∀ a, acc = some a → a ≤ 133120) (hv : c + v ≤ 200000) : encF (omin acc (some v) c) = if nI (c + v) < encF acc then nI (c + v) else encF acc := by
  cases acc with
  | none => rw [if_pos (show nI (c + v) < encF none from encF_lt hv)]; rfl
  | some a =>
    have := ha a rfl
    show encF (if c + v < a then some (c + v) else some a) = if nI (c + v) < nI a then _ else _
    by_cases h : c + v < a
    · rw [if_pos h, if_pos (nI_lt h (by omega))]; rfl
    · rw [if_neg h, if_neg (nI_nlt (by omega) (by omega))]
theorem lsU_some {S : Nat → Int32} {b o : Nat} {rest : Nat → Option Nat} : ∀ n w, lsU S b o rest n = some w → ∃ k, k < n ∧ mayok S k o ∧ ∃ v, rest (o ||| 2 ^ k) = some v ∧ costN S b k o + v = w
  | 0, w, h => by cases h
  | n + 1, w, h => by
    have ih := lsU_some (S := S) (b := b) (o := o) (rest := rest) n
    unfold lsU at h
    split at h
    next hw =>
      cases e : rest (o ||| 2 ^ n) with
      | none =>
        rw [e] at h
        obtain ⟨k, a, bb⟩ := ih w h
        exact ⟨k, by omega, bb⟩
      | some v =>
        rw [e] at h
        cases e2 : lsU S b o rest n with
        | none =>
          rw [e2] at h
          have h2 : some (costN S b n o + v) = some w := h
          exact ⟨n, by omega, hw, v, e, Option.some.inj h2⟩
        | some a =>
          rw [e2] at h
          have h2 : (if costN S b n o + v < a then some (costN S b n o + v) else some a) = some w := h
          split at h2
          · exact ⟨n, by omega, hw, v, e, Option.some.inj h2⟩
          · have h3 := Option.some.inj h2
            subst h3
            obtain ⟨k, x, y⟩ := ih a e2
            exact ⟨k, by omega, y⟩
    next =>
      obtain ⟨k, a, bb⟩ := ih w h
      exact ⟨k, by omega, bb⟩
theorem lsU_le {S : Nat → Int32} {b o : Nat} {rest : Nat → Option Nat} : ∀ n k v, k < n → mayok S k o → rest (o ||| 2 ^ k) = some v → ∃ w, lsU S b o rest n = some w ∧ w ≤ costN S b k o + v
  | 0, k, v, h, _, _ => by omega
  | n + 1, k, v, h, hm, hr => by
    have ih := lsU_le (S := S) (b := b) (o := o) (rest := rest) n k v
    unfold lsU
    by_cases e : k = n
    · subst e
      rw [if_pos (show whyF S k o (nI (slackN S o)) (nI (hdN S o)) = 0 from hm), hr]
      cases e2 : lsU S b o rest k with
      | none => exact ⟨_, rfl, Nat.le_refl _⟩
      | some a =>
        show ∃ w, (if costN S b k o + v < a then some (costN S b k o + v) else some a) = some w ∧ _
        split
        · exact ⟨_, rfl, Nat.le_refl _⟩
        · exact ⟨_, rfl, by omega⟩
    · obtain ⟨w, hw, hl⟩ := ih (by omega) hm hr
      rw [hw]
      split
      · cases e2 : rest (o ||| 2 ^ n) with
        | none => exact ⟨w, rfl, hl⟩
        | some x =>
          show ∃ w', (if costN S b n o + x < w then some (costN S b n o + x) else some w) = some w' ∧ _
          split
          · exact ⟨_, rfl, by omega⟩
          · exact ⟨_, rfl, hl⟩
      · exact ⟨w, rfl, hl⟩
theorem lsU_lt {S : Nat → Int32} (h : Inv S) {b o n : Nat} (ho : o < 1024) (hn : n ≤ nv S 3) : ∀ v, lsU S b o (lst S b) n = some v → v ≤ 133120 := by
  have hn3 := h.1.2
  induction n with
  | zero => intro v hv; cases hv
  | succ n ih =>
    unfold lsU
    split
    next hw =>
      intro v hv
      have hb := why_bit hw
      have h4 := or_gt hb
      have h5 : o ||| 2 ^ n < 2 ^ 10 := or_lt ho (by omega)
      have h7 := cost_le h (b := b) (k := n) (o := o) (by omega)
      exact omin_le (B := 133120) (ih (by omega)) (fun x hx => by have := lst_le h (1024 - (o ||| 2 ^ n)) _ h5 (Nat.le_refl _) x hx; omega) v hv
    next => exact ih (by omega)
theorem m1_lt {n : Nat} (h : n < 2147483647) : nI n - 1 < nI n := by
  rw [fa_lt, nI_toInt (by omega)]
  rcases Nat.eq_zero_or_pos n with z | z
  · subst z; decide
  · rw [show (1 : Int32) = nI 1 from rfl, pk_sub (by omega), nI_toInt (by omega)]; omega
theorem m1_s (n : Nat) : nI (n + 1) - 1 = nI n := by
  rw [show (1 : Int32) = nI 1 from rfl, pk_sub (by omega)]; rfl
theorem m1_add (x : Int32) : x + -1 = x - 1 := (Int32.sub_eq_add_neg x 1).symm
/-- what a row of calls that only asks leaves as it was -/
def kp (c : Nat) : Bool := c == 1 || c == 2 || c == 4 || c == 8 || c == 9 || c == 10 || c == 11 || c == 12 || c == 13 || c == 14 || c == 15
def Sm (σ σ' : St2) : Prop := (∀ c, kp c = true → σ'.1 c = σ.1 c) ∧ σ'.1 0 3 = σ.1 0 3 ∧ σ'.1 0 11 = σ.1 0 11
theorem Sm_r {σ : St2} : Sm σ σ := ⟨fun _ _ => rfl, rfl, rfl⟩
theorem Sm_sr {σ σ' : St2} {k : Nat} {r : Nat → Int32} (hk : kp k = false) (h0 : k ≠ 0) (h : Sm σ σ') : Sm σ (sr σ' k r) := by
  refine ⟨fun c hc => ?_, ?_, ?_⟩
  · rw [sr1n (fun e => by rw [e, hk] at hc; cases hc)]; exact h.1 c hc
  · rw [sr1n (fun e => h0 e.symm)]; exact h.2.1
  · rw [sr1n (fun e => h0 e.symm)]; exact h.2.2
theorem Sm_f {σ σ' : St2} {j : Nat} {v : Int32} (h3 : j ≠ 3) (h11 : j ≠ 11) (h : Sm σ σ') : Sm σ (sr σ' 0 (upd (σ'.1 0) j v)) := by
  refine ⟨fun c hc => ?_, ?_, ?_⟩
  · rw [sr1n (fun e => by rw [e] at hc; exact absurd hc (by decide))]; exact h.1 c hc
  · rw [sr1, updN (fun e => h3 e.symm)]; exact h.2.1
  · rw [sr1, updN (fun e => h11 e.symm)]; exact h.2.2
theorem Sm_t {a b c : St2} (h : Sm a b) (h2 : Sm b c) : Sm a c := ⟨fun i hi => (h2.1 i hi).trans (h.1 i hi), h2.2.1.trans h.2.1, h2.2.2.trans h.2.2⟩
theorem n0_1 {σ : St2} {r : Nat → Int32} : (sr σ 0 r).1 1 = σ.1 1 := sr1n (by decide)
theorem n0_2 {σ : St2} {r : Nat → Int32} : (sr σ 0 r).1 2 = σ.1 2 := sr1n (by decide)
theorem n0_3 {σ : St2} {r : Nat → Int32} : (sr σ 0 r).1 3 = σ.1 3 := sr1n (by decide)
theorem n0_4 {σ : St2} {r : Nat → Int32} : (sr σ 0 r).1 4 = σ.1 4 := sr1n (by decide)
theorem n0_5 {σ : St2} {r : Nat → Int32} : (sr σ 0 r).1 5 = σ.1 5 := sr1n (by decide)
theorem n0_6 {σ : St2} {r : Nat → Int32} : (sr σ 0 r).1 6 = σ.1 6 := sr1n (by decide)
theorem n0_7 {σ : St2} {r : Nat → Int32} : (sr σ 0 r).1 7 = σ.1 7 := sr1n (by decide)
theorem n0_8 {σ : St2} {r : Nat → Int32} : (sr σ 0 r).1 8 = σ.1 8 := sr1n (by decide)
theorem n0_9 {σ : St2} {r : Nat → Int32} : (sr σ 0 r).1 9 = σ.1 9 := sr1n (by decide)
theorem n0_10 {σ : St2} {r : Nat → Int32} : (sr σ 0 r).1 10 = σ.1 10 := sr1n (by decide)
theorem n0_11 {σ : St2} {r : Nat → Int32} : (sr σ 0 r).1 11 = σ.1 11 := sr1n (by decide)
theorem n0_12 {σ : St2} {r : Nat → Int32} : (sr σ 0 r).1 12 = σ.1 12 := sr1n (by decide)
theorem n0_13 {σ : St2} {r : Nat → Int32} : (sr σ 0 r).1 13 = σ.1 13 := sr1n (by decide)
theorem n0_14 {σ : St2} {r : Nat → Int32} : (sr σ 0 r).1 14 = σ.1 14 := sr1n (by decide)
theorem n0_15 {σ : St2} {r : Nat → Int32} : (sr σ 0 r).1 15 = σ.1 15 := sr1n (by decide)
theorem n0_16 {σ : St2} {r : Nat → Int32} : (sr σ 0 r).1 16 = σ.1 16 := sr1n (by decide)
theorem n1_0 {σ : St2} {r : Nat → Int32} : (sr σ 1 r).1 0 = σ.1 0 := sr1n (by decide)
theorem n1_2 {σ : St2} {r : Nat → Int32} : (sr σ 1 r).1 2 = σ.1 2 := sr1n (by decide)
theorem n1_3 {σ : St2} {r : Nat → Int32} : (sr σ 1 r).1 3 = σ.1 3 := sr1n (by decide)
theorem n1_4 {σ : St2} {r : Nat → Int32} : (sr σ 1 r).1 4 = σ.1 4 := sr1n (by decide)
theorem n1_5 {σ : St2} {r : Nat → Int32} : (sr σ 1 r).1 5 = σ.1 5 := sr1n (by decide)
theorem n1_6 {σ : St2} {r : Nat → Int32} : (sr σ 1 r).1 6 = σ.1 6 := sr1n (by decide)
theorem n1_7 {σ : St2} {r : Nat → Int32} : (sr σ 1 r).1 7 = σ.1 7 := sr1n (by decide)
theorem n1_8 {σ : St2} {r : Nat → Int32} : (sr σ 1 r).1 8 = σ.1 8 := sr1n (by decide)
theorem n1_9 {σ : St2} {r : Nat → Int32} : (sr σ 1 r).1 9 = σ.1 9 := sr1n (by decide)
theorem n1_10 {σ : St2} {r : Nat → Int32} : (sr σ 1 r).1 10 = σ.1 10 := sr1n (by decide)
theorem n1_11 {σ : St2} {r : Nat → Int32} : (sr σ 1 r).1 11 = σ.1 11 := sr1n (by decide)
theorem n1_12 {σ : St2} {r : Nat → Int32} : (sr σ 1 r).1 12 = σ.1 12 := sr1n (by decide)
theorem n1_13 {σ : St2} {r : Nat → Int32} : (sr σ 1 r).1 13 = σ.1 13 := sr1n (by decide)
theorem n1_14 {σ : St2} {r : Nat → Int32} : (sr σ 1 r).1 14 = σ.1 14 := sr1n (by decide)
theorem n1_15 {σ : St2} {r : Nat → Int32} : (sr σ 1 r).1 15 = σ.1 15 := sr1n (by decide)
theorem n1_16 {σ : St2} {r : Nat → Int32} : (sr σ 1 r).1 16 = σ.1 16 := sr1n (by decide)
theorem n2_0 {σ : St2} {r : Nat → Int32} : (sr σ 2 r).1 0 = σ.1 0 := sr1n (by decide)
theorem n2_1 {σ : St2} {r : Nat → Int32} : (sr σ 2 r).1 1 = σ.1 1 := sr1n (by decide)
theorem n2_3 {σ : St2} {r : Nat → Int32} : (sr σ 2 r).1 3 = σ.1 3 := sr1n (by decide)
theorem n2_4 {σ : St2} {r : Nat → Int32} : (sr σ 2 r).1 4 = σ.1 4 := sr1n (by decide)
theorem n2_5 {σ : St2} {r : Nat → Int32} : (sr σ 2 r).1 5 = σ.1 5 := sr1n (by decide)
theorem n2_6 {σ : St2} {r : Nat → Int32} : (sr σ 2 r).1 6 = σ.1 6 := sr1n (by decide)
theorem n2_7 {σ : St2} {r : Nat → Int32} : (sr σ 2 r).1 7 = σ.1 7 := sr1n (by decide)
theorem n2_8 {σ : St2} {r : Nat → Int32} : (sr σ 2 r).1 8 = σ.1 8 := sr1n (by decide)
theorem n2_9 {σ : St2} {r : Nat → Int32} : (sr σ 2 r).1 9 = σ.1 9 := sr1n (by decide)
theorem n2_10 {σ : St2} {r : Nat → Int32} : (sr σ 2 r).1 10 = σ.1 10 := sr1n (by decide)
theorem n2_11 {σ : St2} {r : Nat → Int32} : (sr σ 2 r).1 11 = σ.1 11 := sr1n (by decide)
theorem n2_12 {σ : St2} {r : Nat → Int32} : (sr σ 2 r).1 12 = σ.1 12 := sr1n (by decide)
theorem n2_13 {σ : St2} {r : Nat → Int32} : (sr σ 2 r).1 13 = σ.1 13 := sr1n (by decide)
theorem n2_14 {σ : St2} {r : Nat → Int32} : (sr σ 2 r).1 14 = σ.1 14 := sr1n (by decide)
theorem n2_15 {σ : St2} {r : Nat → Int32} : (sr σ 2 r).1 15 = σ.1 15 := sr1n (by decide)
theorem n2_16 {σ : St2} {r : Nat → Int32} : (sr σ 2 r).1 16 = σ.1 16 := sr1n (by decide)
theorem n3_0 {σ : St2} {r : Nat → Int32} : (sr σ 3 r).1 0 = σ.1 0 := sr1n (by decide)
theorem n3_1 {σ : St2} {r : Nat → Int32} : (sr σ 3 r).1 1 = σ.1 1 := sr1n (by decide)
theorem n3_2 {σ : St2} {r : Nat → Int32} : (sr σ 3 r).1 2 = σ.1 2 := sr1n (by decide)
theorem n3_4 {σ : St2} {r : Nat → Int32} : (sr σ 3 r).1 4 = σ.1 4 := sr1n (by decide)
theorem n3_5 {σ : St2} {r : Nat → Int32} : (sr σ 3 r).1 5 = σ.1 5 := sr1n (by decide)
theorem n3_6 {σ : St2} {r : Nat → Int32} : (sr σ 3 r).1 6 = σ.1 6 := sr1n (by decide)
theorem n3_7 {σ : St2} {r : Nat → Int32} : (sr σ 3 r).1 7 = σ.1 7 := sr1n (by decide)
theorem n3_8 {σ : St2} {r : Nat → Int32} : (sr σ 3 r).1 8 = σ.1 8 := sr1n (by decide)
theorem n3_9 {σ : St2} {r : Nat → Int32} : (sr σ 3 r).1 9 = σ.1 9 := sr1n (by decide)
theorem n3_10 {σ : St2} {r : Nat → Int32} : (sr σ 3 r).1 10 = σ.1 10 := sr1n (by decide)
theorem n3_11 {σ : St2} {r : Nat → Int32} : (sr σ 3 r).1 11 = σ.1 11 := sr1n (by decide)
theorem n3_12 {σ : St2} {r : Nat → Int32} : (sr σ 3 r).1 12 = σ.1 12 := sr1n (by decide)
theorem n3_13 {σ : St2} {r : Nat → Int32} : (sr σ 3 r).1 13 = σ.1 13 := sr1n (by decide)
theorem n3_14 {σ : St2} {r : Nat → Int32} : (sr σ 3 r).1 14 = σ.1 14 := sr1n (by decide)
theorem n3_15 {σ : St2} {r : Nat → Int32} : (sr σ 3 r).1 15 = σ.1 15 := sr1n (by decide)
theorem n3_16 {σ : St2} {r : Nat → Int32} : (sr σ 3 r).1 16 = σ.1 16 := sr1n (by decide)
theorem n4_0 {σ : St2} {r : Nat → Int32} : (sr σ 4 r).1 0 = σ.1 0 := sr1n (by decide)
theorem n4_1 {σ : St2} {r : Nat → Int32} : (sr σ 4 r).1 1 = σ.1 1 := sr1n (by decide)
theorem n4_2 {σ : St2} {r : Nat → Int32} : (sr σ 4 r).1 2 = σ.1 2 := sr1n (by decide)
theorem n4_3 {σ : St2} {r : Nat → Int32} : (sr σ 4 r).1 3 = σ.1 3 := sr1n (by decide)
theorem n4_5 {σ : St2} {r : Nat → Int32} : (sr σ 4 r).1 5 = σ.1 5 := sr1n (by decide)
theorem n4_6 {σ : St2} {r : Nat → Int32} : (sr σ 4 r).1 6 = σ.1 6 := sr1n (by decide)
theorem n4_7 {σ : St2} {r : Nat → Int32} : (sr σ 4 r).1 7 = σ.1 7 := sr1n (by decide)
theorem n4_8 {σ : St2} {r : Nat → Int32} : (sr σ 4 r).1 8 = σ.1 8 := sr1n (by decide)
theorem n4_9 {σ : St2} {r : Nat → Int32} : (sr σ 4 r).1 9 = σ.1 9 := sr1n (by decide)
theorem n4_10 {σ : St2} {r : Nat → Int32} : (sr σ 4 r).1 10 = σ.1 10 := sr1n (by decide)
theorem n4_11 {σ : St2} {r : Nat → Int32} : (sr σ 4 r).1 11 = σ.1 11 := sr1n (by decide)
theorem n4_12 {σ : St2} {r : Nat → Int32} : (sr σ 4 r).1 12 = σ.1 12 := sr1n (by decide)
theorem n4_13 {σ : St2} {r : Nat → Int32} : (sr σ 4 r).1 13 = σ.1 13 := sr1n (by decide)
theorem n4_14 {σ : St2} {r : Nat → Int32} : (sr σ 4 r).1 14 = σ.1 14 := sr1n (by decide)
theorem n4_15 {σ : St2} {r : Nat → Int32} : (sr σ 4 r).1 15 = σ.1 15 := sr1n (by decide)
theorem n4_16 {σ : St2} {r : Nat → Int32} : (sr σ 4 r).1 16 = σ.1 16 := sr1n (by decide)
theorem n5_0 {σ : St2} {r : Nat → Int32} : (sr σ 5 r).1 0 = σ.1 0 := sr1n (by decide)
theorem n5_1 {σ : St2} {r : Nat → Int32} : (sr σ 5 r).1 1 = σ.1 1 := sr1n (by decide)
theorem n5_2 {σ : St2} {r : Nat → Int32} : (sr σ 5 r).1 2 = σ.1 2 := sr1n (by decide)
theorem n5_3 {σ : St2} {r : Nat → Int32} : (sr σ 5 r).1 3 = σ.1 3 := sr1n (by decide)
theorem n5_4 {σ : St2} {r : Nat → Int32} : (sr σ 5 r).1 4 = σ.1 4 := sr1n (by decide)
theorem n5_6 {σ : St2} {r : Nat → Int32} : (sr σ 5 r).1 6 = σ.1 6 := sr1n (by decide)
theorem n5_7 {σ : St2} {r : Nat → Int32} : (sr σ 5 r).1 7 = σ.1 7 := sr1n (by decide)
theorem n5_8 {σ : St2} {r : Nat → Int32} : (sr σ 5 r).1 8 = σ.1 8 := sr1n (by decide)
theorem n5_9 {σ : St2} {r : Nat → Int32} : (sr σ 5 r).1 9 = σ.1 9 := sr1n (by decide)
theorem n5_10 {σ : St2} {r : Nat → Int32} : (sr σ 5 r).1 10 = σ.1 10 := sr1n (by decide)
theorem n5_11 {σ : St2} {r : Nat → Int32} : (sr σ 5 r).1 11 = σ.1 11 := sr1n (by decide)
theorem n5_12 {σ : St2} {r : Nat → Int32} : (sr σ 5 r).1 12 = σ.1 12 := sr1n (by decide)
theorem n5_13 {σ : St2} {r : Nat → Int32} : (sr σ 5 r).1 13 = σ.1 13 := sr1n (by decide)
theorem n5_14 {σ : St2} {r : Nat → Int32} : (sr σ 5 r).1 14 = σ.1 14 := sr1n (by decide)
theorem n5_15 {σ : St2} {r : Nat → Int32} : (sr σ 5 r).1 15 = σ.1 15 := sr1n (by decide)
theorem n5_16 {σ : St2} {r : Nat → Int32} : (sr σ 5 r).1 16 = σ.1 16 := sr1n (by decide)
theorem n6_0 {σ : St2} {r : Nat → Int32} : (sr σ 6 r).1 0 = σ.1 0 := sr1n (by decide)
theorem n6_1 {σ : St2} {r : Nat → Int32} : (sr σ 6 r).1 1 = σ.1 1 := sr1n (by decide)
theorem n6_2 {σ : St2} {r : Nat → Int32} : (sr σ 6 r).1 2 = σ.1 2 := sr1n (by decide)
theorem n6_3 {σ : St2} {r : Nat → Int32} : (sr σ 6 r).1 3 = σ.1 3 := sr1n (by decide)
theorem n6_4 {σ : St2} {r : Nat → Int32} : (sr σ 6 r).1 4 = σ.1 4 := sr1n (by decide)
theorem n6_5 {σ : St2} {r : Nat → Int32} : (sr σ 6 r).1 5 = σ.1 5 := sr1n (by decide)
theorem n6_7 {σ : St2} {r : Nat → Int32} : (sr σ 6 r).1 7 = σ.1 7 := sr1n (by decide)
theorem n6_8 {σ : St2} {r : Nat → Int32} : (sr σ 6 r).1 8 = σ.1 8 := sr1n (by decide)
theorem n6_9 {σ : St2} {r : Nat → Int32} : (sr σ 6 r).1 9 = σ.1 9 := sr1n (by decide)
theorem n6_10 {σ : St2} {r : Nat → Int32} : (sr σ 6 r).1 10 = σ.1 10 := sr1n (by decide)
theorem n6_11 {σ : St2} {r : Nat → Int32} : (sr σ 6 r).1 11 = σ.1 11 := sr1n (by decide)
theorem n6_12 {σ : St2} {r : Nat → Int32} : (sr σ 6 r).1 12 = σ.1 12 := sr1n (by decide)
theorem n6_13 {σ : St2} {r : Nat → Int32} : (sr σ 6 r).1 13 = σ.1 13 := sr1n (by decide)
theorem n6_14 {σ : St2} {r : Nat → Int32} : (sr σ 6 r).1 14 = σ.1 14 := sr1n (by decide)
theorem n6_15 {σ : St2} {r : Nat → Int32} : (sr σ 6 r).1 15 = σ.1 15 := sr1n (by decide)
theorem n6_16 {σ : St2} {r : Nat → Int32} : (sr σ 6 r).1 16 = σ.1 16 := sr1n (by decide)
theorem n7_0 {σ : St2} {r : Nat → Int32} : (sr σ 7 r).1 0 = σ.1 0 := sr1n (by decide)
theorem n7_1 {σ : St2} {r : Nat → Int32} : (sr σ 7 r).1 1 = σ.1 1 := sr1n (by decide)
theorem n7_2 {σ : St2} {r : Nat → Int32} : (sr σ 7 r).1 2 = σ.1 2 := sr1n (by decide)
theorem n7_3 {σ : St2} {r : Nat → Int32} : (sr σ 7 r).1 3 = σ.1 3 := sr1n (by decide)
theorem n7_4 {σ : St2} {r : Nat → Int32} : (sr σ 7 r).1 4 = σ.1 4 := sr1n (by decide)
theorem n7_5 {σ : St2} {r : Nat → Int32} : (sr σ 7 r).1 5 = σ.1 5 := sr1n (by decide)
theorem n7_6 {σ : St2} {r : Nat → Int32} : (sr σ 7 r).1 6 = σ.1 6 := sr1n (by decide)
theorem n7_8 {σ : St2} {r : Nat → Int32} : (sr σ 7 r).1 8 = σ.1 8 := sr1n (by decide)
theorem n7_9 {σ : St2} {r : Nat → Int32} : (sr σ 7 r).1 9 = σ.1 9 := sr1n (by decide)
theorem n7_10 {σ : St2} {r : Nat → Int32} : (sr σ 7 r).1 10 = σ.1 10 := sr1n (by decide)
theorem n7_11 {σ : St2} {r : Nat → Int32} : (sr σ 7 r).1 11 = σ.1 11 := sr1n (by decide)
theorem n7_12 {σ : St2} {r : Nat → Int32} : (sr σ 7 r).1 12 = σ.1 12 := sr1n (by decide)
theorem n7_13 {σ : St2} {r : Nat → Int32} : (sr σ 7 r).1 13 = σ.1 13 := sr1n (by decide)
theorem n7_14 {σ : St2} {r : Nat → Int32} : (sr σ 7 r).1 14 = σ.1 14 := sr1n (by decide)
theorem n7_15 {σ : St2} {r : Nat → Int32} : (sr σ 7 r).1 15 = σ.1 15 := sr1n (by decide)
theorem n7_16 {σ : St2} {r : Nat → Int32} : (sr σ 7 r).1 16 = σ.1 16 := sr1n (by decide)
theorem n8_0 {σ : St2} {r : Nat → Int32} : (sr σ 8 r).1 0 = σ.1 0 := sr1n (by decide)
theorem n8_1 {σ : St2} {r : Nat → Int32} : (sr σ 8 r).1 1 = σ.1 1 := sr1n (by decide)
theorem n8_2 {σ : St2} {r : Nat → Int32} : (sr σ 8 r).1 2 = σ.1 2 := sr1n (by decide)
theorem n8_3 {σ : St2} {r : Nat → Int32} : (sr σ 8 r).1 3 = σ.1 3 := sr1n (by decide)
theorem n8_4 {σ : St2} {r : Nat → Int32} : (sr σ 8 r).1 4 = σ.1 4 := sr1n (by decide)
theorem n8_5 {σ : St2} {r : Nat → Int32} : (sr σ 8 r).1 5 = σ.1 5 := sr1n (by decide)
theorem n8_6 {σ : St2} {r : Nat → Int32} : (sr σ 8 r).1 6 = σ.1 6 := sr1n (by decide)
theorem n8_7 {σ : St2} {r : Nat → Int32} : (sr σ 8 r).1 7 = σ.1 7 := sr1n (by decide)
theorem n8_9 {σ : St2} {r : Nat → Int32} : (sr σ 8 r).1 9 = σ.1 9 := sr1n (by decide)
theorem n8_10 {σ : St2} {r : Nat → Int32} : (sr σ 8 r).1 10 = σ.1 10 := sr1n (by decide)
theorem n8_11 {σ : St2} {r : Nat → Int32} : (sr σ 8 r).1 11 = σ.1 11 := sr1n (by decide)
theorem n8_12 {σ : St2} {r : Nat → Int32} : (sr σ 8 r).1 12 = σ.1 12 := sr1n (by decide)
theorem n8_13 {σ : St2} {r : Nat → Int32} : (sr σ 8 r).1 13 = σ.1 13 := sr1n (by decide)
theorem n8_14 {σ : St2} {r : Nat → Int32} : (sr σ 8 r).1 14 = σ.1 14 := sr1n (by decide)
theorem n8_15 {σ : St2} {r : Nat → Int32} : (sr σ 8 r).1 15 = σ.1 15 := sr1n (by decide)
theorem n8_16 {σ : St2} {r : Nat → Int32} : (sr σ 8 r).1 16 = σ.1 16 := sr1n (by decide)
theorem n13_0 {σ : St2} {r : Nat → Int32} : (sr σ 13 r).1 0 = σ.1 0 := sr1n (by decide)
theorem n13_1 {σ : St2} {r : Nat → Int32} : (sr σ 13 r).1 1 = σ.1 1 := sr1n (by decide)
theorem n13_2 {σ : St2} {r : Nat → Int32} : (sr σ 13 r).1 2 = σ.1 2 := sr1n (by decide)
theorem n13_3 {σ : St2} {r : Nat → Int32} : (sr σ 13 r).1 3 = σ.1 3 := sr1n (by decide)
theorem n13_4 {σ : St2} {r : Nat → Int32} : (sr σ 13 r).1 4 = σ.1 4 := sr1n (by decide)
theorem n13_5 {σ : St2} {r : Nat → Int32} : (sr σ 13 r).1 5 = σ.1 5 := sr1n (by decide)
theorem n13_6 {σ : St2} {r : Nat → Int32} : (sr σ 13 r).1 6 = σ.1 6 := sr1n (by decide)
theorem n13_7 {σ : St2} {r : Nat → Int32} : (sr σ 13 r).1 7 = σ.1 7 := sr1n (by decide)
theorem n13_8 {σ : St2} {r : Nat → Int32} : (sr σ 13 r).1 8 = σ.1 8 := sr1n (by decide)
theorem n13_9 {σ : St2} {r : Nat → Int32} : (sr σ 13 r).1 9 = σ.1 9 := sr1n (by decide)
theorem n13_10 {σ : St2} {r : Nat → Int32} : (sr σ 13 r).1 10 = σ.1 10 := sr1n (by decide)
theorem n13_11 {σ : St2} {r : Nat → Int32} : (sr σ 13 r).1 11 = σ.1 11 := sr1n (by decide)
theorem n13_12 {σ : St2} {r : Nat → Int32} : (sr σ 13 r).1 12 = σ.1 12 := sr1n (by decide)
theorem n13_14 {σ : St2} {r : Nat → Int32} : (sr σ 13 r).1 14 = σ.1 14 := sr1n (by decide)
theorem n13_15 {σ : St2} {r : Nat → Int32} : (sr σ 13 r).1 15 = σ.1 15 := sr1n (by decide)
theorem n13_16 {σ : St2} {r : Nat → Int32} : (sr σ 13 r).1 16 = σ.1 16 := sr1n (by decide)
theorem n14_0 {σ : St2} {r : Nat → Int32} : (sr σ 14 r).1 0 = σ.1 0 := sr1n (by decide)
theorem n14_1 {σ : St2} {r : Nat → Int32} : (sr σ 14 r).1 1 = σ.1 1 := sr1n (by decide)
theorem n14_2 {σ : St2} {r : Nat → Int32} : (sr σ 14 r).1 2 = σ.1 2 := sr1n (by decide)
theorem n14_3 {σ : St2} {r : Nat → Int32} : (sr σ 14 r).1 3 = σ.1 3 := sr1n (by decide)
theorem n14_4 {σ : St2} {r : Nat → Int32} : (sr σ 14 r).1 4 = σ.1 4 := sr1n (by decide)
theorem n14_5 {σ : St2} {r : Nat → Int32} : (sr σ 14 r).1 5 = σ.1 5 := sr1n (by decide)
theorem n14_6 {σ : St2} {r : Nat → Int32} : (sr σ 14 r).1 6 = σ.1 6 := sr1n (by decide)
theorem n14_7 {σ : St2} {r : Nat → Int32} : (sr σ 14 r).1 7 = σ.1 7 := sr1n (by decide)
theorem n14_8 {σ : St2} {r : Nat → Int32} : (sr σ 14 r).1 8 = σ.1 8 := sr1n (by decide)
theorem n14_9 {σ : St2} {r : Nat → Int32} : (sr σ 14 r).1 9 = σ.1 9 := sr1n (by decide)
theorem n14_10 {σ : St2} {r : Nat → Int32} : (sr σ 14 r).1 10 = σ.1 10 := sr1n (by decide)
theorem n14_11 {σ : St2} {r : Nat → Int32} : (sr σ 14 r).1 11 = σ.1 11 := sr1n (by decide)
theorem n14_12 {σ : St2} {r : Nat → Int32} : (sr σ 14 r).1 12 = σ.1 12 := sr1n (by decide)
theorem n14_13 {σ : St2} {r : Nat → Int32} : (sr σ 14 r).1 13 = σ.1 13 := sr1n (by decide)
theorem n14_15 {σ : St2} {r : Nat → Int32} : (sr σ 14 r).1 15 = σ.1 15 := sr1n (by decide)
theorem n14_16 {σ : St2} {r : Nat → Int32} : (sr σ 14 r).1 16 = σ.1 16 := sr1n (by decide)
theorem n15_0 {σ : St2} {r : Nat → Int32} : (sr σ 15 r).1 0 = σ.1 0 := sr1n (by decide)
theorem n15_1 {σ : St2} {r : Nat → Int32} : (sr σ 15 r).1 1 = σ.1 1 := sr1n (by decide)
theorem n15_2 {σ : St2} {r : Nat → Int32} : (sr σ 15 r).1 2 = σ.1 2 := sr1n (by decide)
theorem n15_3 {σ : St2} {r : Nat → Int32} : (sr σ 15 r).1 3 = σ.1 3 := sr1n (by decide)
theorem n15_4 {σ : St2} {r : Nat → Int32} : (sr σ 15 r).1 4 = σ.1 4 := sr1n (by decide)
theorem n15_5 {σ : St2} {r : Nat → Int32} : (sr σ 15 r).1 5 = σ.1 5 := sr1n (by decide)
theorem n15_6 {σ : St2} {r : Nat → Int32} : (sr σ 15 r).1 6 = σ.1 6 := sr1n (by decide)
theorem n15_7 {σ : St2} {r : Nat → Int32} : (sr σ 15 r).1 7 = σ.1 7 := sr1n (by decide)
theorem n15_8 {σ : St2} {r : Nat → Int32} : (sr σ 15 r).1 8 = σ.1 8 := sr1n (by decide)
theorem n15_9 {σ : St2} {r : Nat → Int32} : (sr σ 15 r).1 9 = σ.1 9 := sr1n (by decide)
theorem n15_10 {σ : St2} {r : Nat → Int32} : (sr σ 15 r).1 10 = σ.1 10 := sr1n (by decide)
theorem n15_11 {σ : St2} {r : Nat → Int32} : (sr σ 15 r).1 11 = σ.1 11 := sr1n (by decide)
theorem n15_12 {σ : St2} {r : Nat → Int32} : (sr σ 15 r).1 12 = σ.1 12 := sr1n (by decide)
theorem n15_13 {σ : St2} {r : Nat → Int32} : (sr σ 15 r).1 13 = σ.1 13 := sr1n (by decide)
theorem n15_14 {σ : St2} {r : Nat → Int32} : (sr σ 15 r).1 14 = σ.1 14 := sr1n (by decide)
theorem n15_16 {σ : St2} {r : Nat → Int32} : (sr σ 15 r).1 16 = σ.1 16 := sr1n (by decide)
theorem n16_0 {σ : St2} {r : Nat → Int32} : (sr σ 16 r).1 0 = σ.1 0 := sr1n (by decide)
theorem n16_1 {σ : St2} {r : Nat → Int32} : (sr σ 16 r).1 1 = σ.1 1 := sr1n (by decide)
theorem n16_2 {σ : St2} {r : Nat → Int32} : (sr σ 16 r).1 2 = σ.1 2 := sr1n (by decide)
theorem n16_3 {σ : St2} {r : Nat → Int32} : (sr σ 16 r).1 3 = σ.1 3 := sr1n (by decide)
theorem n16_4 {σ : St2} {r : Nat → Int32} : (sr σ 16 r).1 4 = σ.1 4 := sr1n (by decide)
theorem n16_5 {σ : St2} {r : Nat → Int32} : (sr σ 16 r).1 5 = σ.1 5 := sr1n (by decide)
theorem n16_6 {σ : St2} {r : Nat → Int32} : (sr σ 16 r).1 6 = σ.1 6 := sr1n (by decide)
theorem n16_7 {σ : St2} {r : Nat → Int32} : (sr σ 16 r).1 7 = σ.1 7 := sr1n (by decide)
theorem n16_8 {σ : St2} {r : Nat → Int32} : (sr σ 16 r).1 8 = σ.1 8 := sr1n (by decide)
theorem n16_9 {σ : St2} {r : Nat → Int32} : (sr σ 16 r).1 9 = σ.1 9 := sr1n (by decide)
theorem n16_10 {σ : St2} {r : Nat → Int32} : (sr σ 16 r).1 10 = σ.1 10 := sr1n (by decide)
theorem n16_11 {σ : St2} {r : Nat → Int32} : (sr σ 16 r).1 11 = σ.1 11 := sr1n (by decide)
theorem n16_12 {σ : St2} {r : Nat → Int32} : (sr σ 16 r).1 12 = σ.1 12 := sr1n (by decide)
theorem n16_13 {σ : St2} {r : Nat → Int32} : (sr σ 16 r).1 13 = σ.1 13 := sr1n (by decide)
theorem n16_14 {σ : St2} {r : Nat → Int32} : (sr σ 16 r).1 14 = σ.1 14 := sr1n (by decide)
theorem n16_15 {σ : St2} {r : Nat → Int32} : (sr σ 16 r).1 15 = σ.1 15 := sr1n (by decide)
section MD
variable {ev : EV} {σ : St2} {K : PO}
theorem R_leastFrom {fr b : Nat} (hI : Inv (σ.1 1)) (hb : b ≤ 2) (hf : fr < 2 ^ nv (σ.1 1) 3) (hk : ∀ r, (∀ t, t < 2 ^ nv (σ.1 1) 3 → fr &&& t = fr → r t = encF (lst (σ.1 1) b t)) → K (some (.int (encF (lst (σ.1 1) b fr)))) (sr σ 5 r)) : Rn 1 ev mM_leastFrom [.ref 0, .int (nI fr), .int (nI b)] σ K := by
  have hn := hI.1.2
  have hT := p2le _ hn
  refine Rn_V (by decide) rc6 rfl rfl ?_
  refine PW_blk okM_leastFrom 0 rfl SpM_ok ?_
  simp only [wL0, wLc, true_and, w2, lg0, lgi, lgr, lgl, w54_1, q40, q41, q42, q43, q44, Option.toList_some, Option.toList_none, List.cons_append, List.nil_append, sp_allLocks, w4, ls00, ls0i, ls0r, ls0l, lsi, lsr, lsl, Option.map_some, w71, hI.1.1]
  rw [alF_n _ (by omega)]
  have key := lp_dn (a := fr) (P := fun j => j ≤ 2 ^ nv (σ.1 1) 3 → ∀ r, (∀ t, j ≤ t → t < 2 ^ nv (σ.1 1) 3 → fr &&& t = fr → r t = encF (lst (σ.1 1) b t)) → PW 1 ev mM_leastFrom 5 [.ref 0, .int (nI fr), .int (nI b), .int (nI j - 1)] [] (sr σ 5 r) K) ?_ ?_ (2 ^ nv (σ.1 1) 3) (by omega) (Nat.le_refl _) (σ.1 5) (fun t h1 h2 _ => absurd h1 (by omega))
  · rw [sr_self] at key
    have e : nI (2 ^ nv (σ.1 1) 3 - 1) = nI (2 ^ nv (σ.1 1) 3) - 1 := by rw [show (1 : Int32) = nI 1 from rfl, pk_sub (by omega)]
    rw [e]
    exact key
  · intro hle r hr
    refine PW_blk okM_leastFrom 1 rfl SpM_ok ?_
    simp only [wL0, wLc, true_and, w1, lg0, lgi, lgr, lgl, w80]
    refine b2Y (m1_lt (by omega)) ?_
    refine PW_blk okM_leastFrom 16 rfl SpM_ok ?_
    simp only [wL0, wLc, true_and, w2, lg0, lgi, lgr, lgl, w35, kM0, rM5, kM5, nM5, w1, w39, w84, sr1]
    rw [nI_clamp (by omega), hr fr (Nat.le_refl _) hf (Nat.and_self _)]
    exact ⟨vp_in_nI (by omega) (by decide), hk r (fun t h1 h2 => hr t (by have : fr &&& t ≤ t := Nat.and_le_right; omega) h1 h2)⟩
  · intro s hs ih hle r hr
    have hs10 : s < 1024 := by omega
    rw [m1_s]
    refine PW_blk okM_leastFrom 1 rfl SpM_ok ?_
    simp only [wL0, wLc, true_and, w1, lg0, lgi, lgr, lgl, w80]
    refine b2N (nI_nlt hs (by omega)) ?_
    have cont : ∀ r, (∀ t, s ≤ t → t < 2 ^ nv (σ.1 1) 3 → fr &&& t = fr → r t = encF (lst (σ.1 1) b t)) → PW 1 ev mM_leastFrom 170 [.ref 0, .int (nI fr), .int (nI b), .int (nI s)] [] (sr σ 5 r) K := by
      intro r hr
      refine PW_blk okM_leastFrom 15 rfl SpM_ok ?_
      simp only [wL0, wLc, true_and, w7, lg0, lgi, lgr, lgl, ls00, ls0i, ls0r, ls0l, lsi, lsr, lsl, Option.map_some, w70, m1_add]
      exact ih (by omega) r hr
    have hv : vp_in (nI s) 1024 := vp_in_nI hs10 (by decide)
    have cl : (nI s).toNatClampNeg = s := nI_clamp (by omega)
    refine PW_blk okM_leastFrom 2 rfl SpM_ok ?_
    simp only [wL0, wLc, true_and, w2, lg0, lgi, lgr, lgl, w35, kM0, rM5, kM5, nM5, w1, w0, w40, w18, w16, w73, sr1, si_sr, eq_true hv, cl]
    rw [nI_not (by omega) hs10]
    have same : ∀ x t, s + 1 ≤ t → upd r s x t = r t := fun x t ht => updN (by omega)
    by_cases hsub : fr &&& s = fr
    rotate_left
    · refine b3N hsub ?_
      refine PW_blk okM_leastFrom 5 rfl SpM_ok ?_
      simp only [wL0, wLc, true_and, w1, lg0, lgi, lgr, lgl, w0, w18, w16, w73]
      rw [nI_not (by omega) hs10]
      refine b3N hsub ?_
      refine cont _ (fun t h1 h2 h3 => ?_)
      have hne : t ≠ s := fun e => hsub (e ▸ h3)
      rw [same _ t (by omega)]
      exact hr t (by omega) h2 h3
    refine b3Y hsub ?_
    refine PW_blk okM_leastFrom 3 rfl SpM_ok ?_
    simp only [wL0, wLc, true_and, w2, lg0, lgi, lgr, lgl, w1, w54_2, q40, q41, q42, q43, q44, Option.toList_some, Option.toList_none, List.cons_append, List.nil_append, sp_isOut, w72, n5_1]
    by_cases hout : σ.1 1 6 &&& (nI s ^^^ -1) = 0
    · refine bY (if_pos hout) ?_
      refine PW_blk okM_leastFrom 4 rfl SpM_ok ?_
      simp only [wL0, wLc, true_and, w2, lg0, lgi, lgr, lgl, w35, kM0, rM5, kM5, nM5, w1, w0, w40, tn0, w70, sr1, si_sr, eq_true hv, cl]
      refine cont _ (fun t h1 h2 h3 => ?_)
      by_cases e : t = s
      · subst e
        rw [updS, lst_eq hn (by omega), if_pos hout]
        rfl
      · rw [updN e, same _ t (by omega)]
        exact hr t (by omega) h2 h3
    refine bN (if_neg hout) ?_
    refine PW_blk okM_leastFrom 5 rfl SpM_ok ?_
    simp only [wL0, wLc, true_and, w1, lg0, lgi, lgr, lgl, w0, w18, w16, w73]
    rw [nI_not (by omega) hs10]
    refine b3Y hsub ?_
    refine PW_blk okM_leastFrom 6 rfl SpM_ok ?_
    simp only [wL0, wLc, true_and, w2, lg0, lgi, lgr, lgl, w1, w54_2, q40, q41, q42, q43, q44, Option.toList_some, Option.toList_none, List.cons_append, List.nil_append, w4, ls00, ls0i, ls0r, ls0l, lsi, lsr, lsl, Option.map_some, w0, w71]
    refine R_slackBy (σ := sr σ 5 _) hI hs10 ?_
    simp only [wL0, wLc, true_and, w2, lg0, lgi, lgr, lgl, w1, w54_2, q40, q41, q42, q43, q44, Option.toList_some, Option.toList_none, List.cons_append, List.nil_append, w4, ls00, ls0i, ls0r, ls0l, lsi, lsr, lsl, Option.map_some, w0, w71, n5_1]
    refine R_freeBy (σ := sr σ 5 _) hI hs10 ?_
    simp only [wL0, wLc, true_and, w2, lg0, lgi, lgr, lgl, w1, w54_2, q40, q41, q42, q43, q44, Option.toList_some, Option.toList_none, List.cons_append, List.nil_append, w4, ls00, ls0i, ls0r, ls0l, lsi, lsr, lsl, Option.map_some, w0, w71, n5_1]
    have inner := lp_up (n := nv (σ.1 1) 3) (P := fun k => ∀ r, (∀ t, s + 1 ≤ t → t < 2 ^ nv (σ.1 1) 3 → fr &&& t = fr → r t = encF (lst (σ.1 1) b t)) → r s = encF (lsU (σ.1 1) b s (lst (σ.1 1) b) k) → PW 1 ev mM_leastFrom 69 [.ref 0, .int (nI fr), .int (nI b), .int (nI s), .int (nI (slackN (σ.1 1) s)), .int (nI (frN (σ.1 1) s)), .int (nI k)] [] (sr σ 5 r) K) ?_ ?_ 0 (Nat.zero_le _)
    · exact inner _ (fun t h1 h2 h3 => by rw [same _ t h1]; exact hr t h1 h2 h3) updS
    · intro r hr hrs
      refine PW_blk okM_leastFrom 7 rfl SpM_ok ?_
      simp only [wL0, wLc, true_and, w1, lg0, lgi, lgr, lgl, w2, w35, kM0, rM0, kM1, nM1, w0, w39, tn3, vi3_120, w81, n5_1, hI.1.1]
      refine b3N (nI_nlt (Nat.le_refl _) (by omega)) ?_
      refine PW_loc 4 ?_
      refine cont r (fun t h1 h2 h3 => ?_)
      by_cases e : t = s
      · subst e
        rw [hrs, lst_eq hn (by omega), if_neg hout]
      · exact hr t (by omega) h2 h3
    · intro k hkn ih2 r hr hrs
      have hk10 : k < 10 := by omega
      refine PW_blk okM_leastFrom 7 rfl SpM_ok ?_
      simp only [wL0, wLc, true_and, w1, lg0, lgi, lgr, lgl, w2, w35, kM0, rM0, kM1, nM1, w0, w39, tn3, vi3_120, w81, n5_1, hI.1.1]
      refine b3Y (nI_lt hkn (by omega)) ?_
      refine PW_blk okM_leastFrom 8 rfl SpM_ok ?_
      simp only [wL0, wLc, true_and, w2, lg0, lgi, lgr, lgl, w1, w54_5, q40, q41, q42, q43, q44, Option.toList_some, Option.toList_none, List.cons_append, List.nil_append, w73]
      refine R_whyBy (σ := sr σ 5 _) hI hs10 (by have := frN_lt (σ.1 1) s; omega) hkn ?_
      simp only [wL0, wLc, true_and, w2, lg0, lgi, lgr, lgl, w1, w54_5, q40, q41, q42, q43, q44, Option.toList_some, Option.toList_none, List.cons_append, List.nil_append, w73, n5_1]
      have next : ∀ r, (∀ t, s + 1 ≤ t → t < 2 ^ nv (σ.1 1) 3 → fr &&& t = fr → r t = encF (lst (σ.1 1) b t)) → r s = encF (lsU (σ.1 1) b s (lst (σ.1 1) b) (k + 1)) → PW 1 ev mM_leastFrom 164 [.ref 0, .int (nI fr), .int (nI b), .int (nI s), .int (nI (slackN (σ.1 1) s)), .int (nI (frN (σ.1 1) s)), .int (nI k)] [] (sr σ 5 r) K := by
        intro r hr hrs
        refine PW_blk okM_leastFrom 14 rfl SpM_ok ?_
        simp only [wL0, wLc, true_and, w7, lg0, lgi, lgr, lgl, ls00, ls0i, ls0r, ls0l, lsi, lsr, lsl, Option.map_some, w70]
        rw [show (1 : Int32) = nI 1 from rfl, nI_add]
        exact ih2 r hr hrs
      have e1 : lsU (σ.1 1) b s (lst (σ.1 1) b) (k + 1) = if whyF (σ.1 1) k s (nI (slackN (σ.1 1) s)) (nI (hdN (σ.1 1) s)) = 0 then omin (lsU (σ.1 1) b s (lst (σ.1 1) b) k) (lst (σ.1 1) b (s ||| 2 ^ k)) (costN (σ.1 1) b k s) else lsU (σ.1 1) b s (lst (σ.1 1) b) k := rfl
      by_cases hw : whyF (σ.1 1) k s (nI (slackN (σ.1 1) s)) (nI (hdN (σ.1 1) s)) = 0
      rotate_left
      · refine b3N hw ?_
        refine next r hr ?_
        rw [e1, if_neg hw]
        exact hrs
      refine b3Y hw ?_
      rw [if_pos hw] at e1
      have hbit := why_bit hw
      have hgt := or_gt hbit
      have hlt : s ||| 2 ^ k < 2 ^ nv (σ.1 1) 3 := or_lt (by omega) hkn
      have hsub2 : fr &&& (s ||| 2 ^ k) = fr := by
        rw [Nat.and_or_distrib_left, hsub]
        apply Nat.eq_of_testBit_eq
        intro i
        rw [Nat.testBit_or, Nat.testBit_and]
        cases fr.testBit i <;> simp
      have hv2 : vp_in (nI (s ||| 2 ^ k)) 1024 := vp_in_nI (by omega) (by decide)
      have cl2 : (nI (s ||| 2 ^ k)).toNatClampNeg = s ||| 2 ^ k := nI_clamp (by omega)
      have hq := hr _ hgt hlt hsub2
      refine PW_blk okM_leastFrom 9 rfl SpM_ok ?_
      simp only [wL0, wLc, true_and, w2, lg0, lgi, lgr, lgl, w35, kM0, rM5, kM5, nM5, w1, w0, w19, w17, w39, tn1, w81, sr1, nI_sh1 k (by omega), fa_or, eq_true hv2, cl2, hq]
      cases e : lst (σ.1 1) b (s ||| 2 ^ k) with
      | none =>
        refine b3N (show ¬ encF none < 99999999 by decide) ?_
        refine next r hr ?_
        rw [e1, e]
        exact hrs
      | some v =>
        have hvle := lst_lt hI (by omega) e
        have hc := cost_le hI (b := b) (o := s) hkn
        have hal : ∀ a, lsU (σ.1 1) b s (lst (σ.1 1) b) k = some a → a ≤ 133120 := lsU_lt hI hs10 (by omega)
        refine b3Y (encF_lt (v := v) (by omega)) ?_
        refine PW_blk okM_leastFrom 10 rfl SpM_ok ?_
        simp only [wL0, wLc, true_and, w2, lg0, lgi, lgr, lgl, w1, w54_6, q40, q41, q42, q43, q44, Option.toList_some, Option.toList_none, List.cons_append, List.nil_append, w35, kM0, rM5, kM5, nM5, w0, w19, w17, w39, w11, w4, ls00, ls0i, ls0r, ls0l, lsi, lsr, lsl, Option.map_some, tn1, w81]
        refine R_costs (σ := sr σ 5 _) hI hs10 hb hkn ?_
        rw [e] at hq
        simp only [wL0, wLc, true_and, w2, lg0, lgi, lgr, lgl, w1, w54_6, q40, q41, q42, q43, q44, Option.toList_some, Option.toList_none, List.cons_append, List.nil_append, w35, kM0, rM5, kM5, nM5, w0, w19, w17, w39, w11, w4, ls00, ls0i, ls0r, ls0l, lsi, lsr, lsl, Option.map_some, tn1, w81, sr1, n5_1, nI_sh1 k (by omega), fa_or, eq_true hv2, cl2, hq, cl, eq_true hv, hrs]
        rw [show encF (some v) = nI v from rfl, nI_add]
        have e3 := encF_omin (acc := lsU (σ.1 1) b s (lst (σ.1 1) b) k) (v := v) (c := costN (σ.1 1) b k s) hal (by omega)
        have fin : PW 1 ev mM_leastFrom 163 [.ref 0, .int (nI fr), .int (nI b), .int (nI s), .int (nI (slackN (σ.1 1) s)), .int (nI (frN (σ.1 1) s)), .int (nI k), .int (nI (costN (σ.1 1) b k s + v))] [.int (encF (lsU (σ.1 1) b s (lst (σ.1 1) b) (k + 1))), .int (nI s), .ref 5] (sr σ 5 r) K := by
          refine PW_blk okM_leastFrom 13 rfl SpM_ok ?_
          simp only [wL0, wLc, true_and, w40, w71, si_sr, kM5, nM5, cl, eq_true hv]
          refine PW_loc 7 ?_
          exact next _ (fun t h1 h2 h3 => by rw [updN (by omega)]; exact hr t h1 h2 h3) updS
        rw [e1, e, e3] at fin
        by_cases hc2 : nI (costN (σ.1 1) b k s + v) < encF (lsU (σ.1 1) b s (lst (σ.1 1) b) k)
        · refine b3Y hc2 ?_
          rw [if_pos hc2] at fin
          refine PW_blk okM_leastFrom 11 rfl SpM_ok ?_
          simp only [wL0, wLc, true_and, w1, lg0, lgi, lgr, lgl, w70]
          exact fin
        · refine b3N hc2 ?_
          rw [if_neg hc2] at fin
          refine PW_blk okM_leastFrom 12 rfl SpM_ok ?_
          simp only [wL0, wLc, true_and, w2, lg0, lgi, lgr, lgl, w35, kM0, rM5, kM5, nM5, w1, w39, w71, sr1, cl, eq_true hv, hrs]
          exact fin
theorem R_told1 {r : Option Nat} (hr : ∀ v, r = some v → v ≤ 133120) (h1 : r = none → K (some (.int (-1000004))) (noS σ 3)) (h2 : ∀ v, r = some v → K (some (.int (nI v))) σ) : Rn 1 ev mM_told1 [.ref 0, .int (encF r)] σ K := by
  refine Rn_V (by decide) rc6 rfl rfl ?_
  refine PW_blk okM_told1 0 rfl SpM_ok ?_
  simp only [wL0, wLc, true_and, w1, lg0, lgi, lgr, lgl, w0, w81]
  cases r with
  | none =>
    refine b3N (show ¬ encF none < 99999999 by decide) ?_
    refine PW_blk okM_told1 2 rfl SpM_ok ?_
    simp only [wL0, wLc, true_and, w2, lg0, lgi, lgr, lgl, w0, w54_2, q40, q41, q42, q43, q44, Option.toList_some, Option.toList_none, List.cons_append, List.nil_append, sp_no, v7_0, v7_1, v7_2, v7_3, v7_4, v7_5, v7_6, w71]
    refine PW_blk okM_told1 3 rfl SpM_ok ?_
    simp only [wL0, w84]
    exact h1 rfl
  | some v =>
    have := hr v rfl
    refine b3Y (encF_lt (v := v) (by omega)) ?_
    refine PW_blk okM_told1 1 rfl SpM_ok ?_
    simp only [wL0, wLc, true_and, w1, lg0, lgi, lgr, lgl, w70]
    refine PW_blk okM_told1 3 rfl SpM_ok ?_
    simp only [wL0, w84]
    exact h2 v rfl
theorem R_soonest (hI : Inv (σ.1 1)) (h1 : lst (σ.1 1) 0 (nv (σ.1 1) 2) = none → ∀ σ', Sm σ σ' → K (some (.int (-1000004))) (noS σ' 3)) (h2 : ∀ v, lst (σ.1 1) 0 (nv (σ.1 1) 2) = some v → ∀ σ', Sm σ σ' → K (some (.int (nI v))) σ') : Rn 1 ev mM_soonest [.ref 0] σ K := by
  have hG := hI.2.1.1
  have hlt : nv (σ.1 1) 2 < 1024 := by have := hG.2; omega
  refine Rn_V (by decide) rc6 rfl rfl ?_
  refine PW_blk okM_soonest 0 rfl SpM_ok ?_
  simp only [wL0, wLc, true_and, w2, lg0, lgi, lgr, lgl, w35, kM0, rM0, kM1, nM1, w0, w39, w54_3, q40, q41, q42, q43, q44, Option.toList_some, Option.toList_none, List.cons_append, List.nil_append, w54_2, tn0, vi0_120, tn2, vi2_120, w84, hG.1]
  refine R_leastFrom (b := 0) hI (by decide) hI.2.1.2 (fun r _ => ?_)
  simp only [wL0, wLc, true_and, w2, lg0, lgi, lgr, lgl, w35, kM0, rM0, kM1, nM1, w0, w39, w54_3, q40, q41, q42, q43, q44, Option.toList_some, Option.toList_none, List.cons_append, List.nil_append, w54_2, tn0, vi0_120, tn2, vi2_120, w84]
  refine R_told1 (fun v hv => lst_lt hI hlt hv) (fun e => ?_) (fun v e => ?_)
  · simp only [wL0, wLc, true_and, w2, lg0, lgi, lgr, lgl, w35, kM0, rM0, kM1, nM1, w0, w39, w54_3, q40, q41, q42, q43, q44, Option.toList_some, Option.toList_none, List.cons_append, List.nil_append, w54_2, tn0, vi0_120, tn2, vi2_120, w84]
    exact h1 e _ (Sm_sr (by decide) (by decide) Sm_r)
  · simp only [wL0, wLc, true_and, w2, lg0, lgi, lgr, lgl, w35, kM0, rM0, kM1, nM1, w0, w39, w54_3, q40, q41, q42, q43, q44, Option.toList_some, Option.toList_none, List.cons_append, List.nil_append, w54_2, tn0, vi0_120, tn2, vi2_120, w84]
    exact h2 v e _ (Sm_sr (by decide) (by decide) Sm_r)
theorem R_quietest (hI : Inv (σ.1 1)) (h1 : lst (σ.1 1) 1 (nv (σ.1 1) 2) = none → ∀ σ', Sm σ σ' → K (some (.int (-1000004))) (noS σ' 3)) (h2 : ∀ v, lst (σ.1 1) 1 (nv (σ.1 1) 2) = some v → ∀ σ', Sm σ σ' → K (some (.int (nI v))) σ') : Rn 1 ev mM_quietest [.ref 0] σ K := by
  have hG := hI.2.1.1
  have hlt : nv (σ.1 1) 2 < 1024 := by have := hG.2; omega
  refine Rn_V (by decide) rc6 rfl rfl ?_
  refine PW_blk okM_quietest 0 rfl SpM_ok ?_
  simp only [wL0, wLc, true_and, w2, lg0, lgi, lgr, lgl, w35, kM0, rM0, kM1, nM1, w0, w39, w54_3, q40, q41, q42, q43, q44, Option.toList_some, Option.toList_none, List.cons_append, List.nil_append, w54_2, tn1, vi1_120, tn2, vi2_120, w84, hG.1]
  refine R_leastFrom (b := 1) hI (by decide) hI.2.1.2 (fun r _ => ?_)
  simp only [wL0, wLc, true_and, w2, lg0, lgi, lgr, lgl, w35, kM0, rM0, kM1, nM1, w0, w39, w54_3, q40, q41, q42, q43, q44, Option.toList_some, Option.toList_none, List.cons_append, List.nil_append, w54_2, tn1, vi1_120, tn2, vi2_120, w84]
  refine R_told1 (fun v hv => lst_lt hI hlt hv) (fun e => ?_) (fun v e => ?_)
  · simp only [wL0, wLc, true_and, w2, lg0, lgi, lgr, lgl, w35, kM0, rM0, kM1, nM1, w0, w39, w54_3, q40, q41, q42, q43, q44, Option.toList_some, Option.toList_none, List.cons_append, List.nil_append, w54_2, tn1, vi1_120, tn2, vi2_120, w84]
    exact h1 e _ (Sm_sr (by decide) (by decide) Sm_r)
  · simp only [wL0, wLc, true_and, w2, lg0, lgi, lgr, lgl, w35, kM0, rM0, kM1, nM1, w0, w39, w54_3, q40, q41, q42, q43, q44, Option.toList_some, Option.toList_none, List.cons_append, List.nil_append, w54_2, tn1, vi1_120, tn2, vi2_120, w84]
    exact h2 v e _ (Sm_sr (by decide) (by decide) Sm_r)
theorem R_fewest (hI : Inv (σ.1 1)) (h1 : lst (σ.1 1) 2 (nv (σ.1 1) 2) = none → ∀ σ', Sm σ σ' → K (some (.int (-1000004))) (noS σ' 3)) (h2 : ∀ v, lst (σ.1 1) 2 (nv (σ.1 1) 2) = some v → ∀ σ', Sm σ σ' → K (some (.int (nI v))) σ') : Rn 1 ev mM_fewest [.ref 0] σ K := by
  have hG := hI.2.1.1
  have hlt : nv (σ.1 1) 2 < 1024 := by have := hG.2; omega
  refine Rn_V (by decide) rc6 rfl rfl ?_
  refine PW_blk okM_fewest 0 rfl SpM_ok ?_
  simp only [wL0, wLc, true_and, w2, lg0, lgi, lgr, lgl, w35, kM0, rM0, kM1, nM1, w0, w39, w54_3, q40, q41, q42, q43, q44, Option.toList_some, Option.toList_none, List.cons_append, List.nil_append, w54_2, tn2, vi2_120, w84, hG.1]
  refine R_leastFrom (b := 2) hI (by decide) hI.2.1.2 (fun r _ => ?_)
  simp only [wL0, wLc, true_and, w2, lg0, lgi, lgr, lgl, w35, kM0, rM0, kM1, nM1, w0, w39, w54_3, q40, q41, q42, q43, q44, Option.toList_some, Option.toList_none, List.cons_append, List.nil_append, w54_2, tn2, vi2_120, w84]
  refine R_told1 (fun v hv => lst_lt hI hlt hv) (fun e => ?_) (fun v e => ?_)
  · simp only [wL0, wLc, true_and, w2, lg0, lgi, lgr, lgl, w35, kM0, rM0, kM1, nM1, w0, w39, w54_3, q40, q41, q42, q43, q44, Option.toList_some, Option.toList_none, List.cons_append, List.nil_append, w54_2, tn2, vi2_120, w84]
    exact h1 e _ (Sm_sr (by decide) (by decide) Sm_r)
  · simp only [wL0, wLc, true_and, w2, lg0, lgi, lgr, lgl, w35, kM0, rM0, kM1, nM1, w0, w39, w54_3, q40, q41, q42, q43, q44, Option.toList_some, Option.toList_none, List.cons_append, List.nil_append, w54_2, tn2, vi2_120, w84]
    exact h2 v e _ (Sm_sr (by decide) (by decide) Sm_r)
end MD
