/-! the law's start: two objects are made, and agree -/
def offX (k : Nat) : Nat := if k < 54 then k else if k = 62 then 54 else k + 1
theorem offX_i : ∀ i : Nat, i < 63 → ∀ j : Nat, j < 63 → offX i = offX j → i = j := by decide +kernel
/-- the first stores -/
def sX0 : St2 := (fun k => if k = 13 then va_cpy (cst 204) (fun _ => 0) 0 0 5 else if k = 27 then va_cpy (cst 204) (fun _ => 0) 0 0 5 else if k = 41 then va_cpy (cst 204) (fun _ => 0) 0 0 5 else if k = 14 then fun _ => -1 else if k = 28 then fun _ => -1 else if k = 42 then fun _ => -1 else if k = 1 then (fun j => if j = 7 then 1 else 0) else if k = 15 then (fun j => if j = 7 then 1 else 0) else if k = 29 then (fun j => if j = 7 then 1 else 0) else if k = 50 then (fun j => if j = 2 then 2147483647 else if j = 3 then 2147483647 else 0) else fun _ => 0, fun _ _ => 0)
def S0 : Nat → Int32 := spF (upd (upd (upd (fun _ => 0) 7 5) 8 5) 9 1) 10
def sM0 : St2 := (fun k => if k = 1 then S0 else if k = 9 then ini vs9 42 else if k = 10 then ini vs10 36 else if k = 11 then ini vs11 18 else if k = 12 then ini vs12 6 else fun _ => 0, fun _ _ => 0)
theorem S0_spots : ∀ i : Nat, i < 10 → S0 (110 + i) = -1 := by decide +kernel
theorem Inv0 : Inv S0 := by
  have e3 : nv S0 3 = 0 := by decide +kernel
  refine ⟨by unfold rg; decide +kernel, ⟨by unfold rg; decide +kernel, by decide +kernel⟩, by unfold rg; decide +kernel, by unfold rg; decide +kernel, by unfold rg; decide +kernel, ⟨by unfold rg; decide +kernel, by decide +kernel⟩, by unfold rg; decide +kernel, by unfold rg; decide +kernel, fun k hk => absurd hk (by rw [e3]; exact Nat.not_lt_zero k), fun i hi => Or.inl (S0_spots i hi)⟩
theorem Rel0 : Rel sX0 sM0 := by
  have e3 : nv S0 3 = 0 := by decide +kernel
  have eS : sM0.1 1 = S0 := rfl
  refine ⟨⟨Inv0, by show nv S0 0 ≤ 99999; decide +kernel, ?_⟩, Or.inl ⟨rfl, rfl⟩, ⟨0, by decide, rfl, rfl, fun i hi => rfl⟩, fun w hw => rfl, ⟨fun i hi => ⟨Or.inl rfl, rg_of (n := 0) rfl (by decide)⟩, fun j hj => ?_⟩, ?_⟩
  · refine ⟨⟨by decide +kernel, by decide +kernel, by decide +kernel, by decide +kernel, by decide +kernel⟩, ?_, ?_, fun k f hk => ?_⟩
    · exact (by decide +kernel : ∀ j : Nat, j < 5 → sX0.1 (1 + 12) j = S0 (4 + j))
    · exact (by decide +kernel : ∀ i : Nat, i < 10 → sX0.1 (1 + 13) i = S0 (110 + i))
    · rw [eS, e3] at hk
      exact absurd hk (Nat.not_lt_zero k)
  · rcases (show j = 0 ∨ j = 1 ∨ j = 2 ∨ j = 3 by omega) with rfl | rfl | rfl | rfl <;> exact ⟨rfl, rfl, fun _ _ => rfl⟩
  · refine ⟨?_, ?_, ?_, ?_⟩
    · exact (by decide +kernel : ∀ w : Nat, w < 7 → ∀ k : Nat, k < 6 → ini vs9 42 (6 * w + k) = nI ((wK w).getD k 32))
    · exact (by decide +kernel : ∀ w : Nat, w < 6 → ∀ k : Nat, k < 6 → ini vs10 36 (6 * w + k) = nI ((wO w).getD k 32))
    · exact (by decide +kernel : ∀ w : Nat, w < 3 → ∀ k : Nat, k < 6 → ini vs11 18 (6 * w + k) = nI ((wR w).getD k 32))
    · exact (by decide +kernel : ∀ w : Nat, w < 6 → ini vs12 6 w = nI (fldO w))
theorem at_rf {D : va_G} {a n t : Nat} {ev : EV} {f g : Nat → Option Nat} {H : Heap} (h : va_at D cls7 (a, rfE n t ev f) H) (e : ∀ j, j < n → f j = g j) : va_at D cls7 (a, rfE n t ev g) H := by
  show H[a]? = some (vp_cell _ _)
  rw [show H[a]? = some (vp_cell (ev.2.2 t) (n, .inr (.inr (.inr (.inr f))))) from h, vp_cell_q, vp_cell_q]
  exact congrArg some (arrV_cong (fun j hj => by rw [e j hj]))
section ST
variable {h tQ : Nat} {tA adK adV : Nat → Nat} {D : va_G} {cA : Nat → ClassId}
abbrev evX (h : Nat) (tA adK adV : Nat → Nat) (tQ : Nat) (D : va_G) (cA : Nat → ClassId) : EV := (adX h tA adK adV tQ, D, cA)
abbrev evM (h : Nat) (D : va_G) (cA : Nat → ClassId) : EV := (fun k => h + k, D, cA)
theorem adX_o {k : Nat} (hk : k < 63) : adX h tA adK adV tQ k = h + offX k := if_pos hk
set_option maxHeartbeats 40000000 in
theorem entX : ∀ k : Nat, k < 63 → k ≠ 2 → k ≠ 16 → k ≠ 30 → k ≠ 53 → (L_X (evX h tA adK adV tQ D cA) h)[offX k]? = some (ent (evX h tA adK adV tQ D cA) 0 sX0 k) := by
  intro k hk h1 h2 h3 h4
  match k, hk with
  | 0, _ => rfl
  | 1, _ => rfl
  | 2, _ => exact absurd rfl h1
  | 3, _ => rfl
  | 4, _ => rfl
  | 5, _ => rfl
  | 6, _ => rfl
  | 7, _ => rfl
  | 8, _ => rfl
  | 9, _ => rfl
  | 10, _ => rfl
  | 11, _ => rfl
  | 12, _ => rfl
  | 13, _ => rfl
  | 14, _ => rfl
  | 15, _ => rfl
  | 16, _ => exact absurd rfl h2
  | 17, _ => rfl
  | 18, _ => rfl
  | 19, _ => rfl
  | 20, _ => rfl
  | 21, _ => rfl
  | 22, _ => rfl
  | 23, _ => rfl
  | 24, _ => rfl
  | 25, _ => rfl
  | 26, _ => rfl
  | 27, _ => rfl
  | 28, _ => rfl
  | 29, _ => rfl
  | 30, _ => exact absurd rfl h3
  | 31, _ => rfl
  | 32, _ => rfl
  | 33, _ => rfl
  | 34, _ => rfl
  | 35, _ => rfl
  | 36, _ => rfl
  | 37, _ => rfl
  | 38, _ => rfl
  | 39, _ => rfl
  | 40, _ => rfl
  | 41, _ => rfl
  | 42, _ => rfl
  | 43, _ => rfl
  | 44, _ => rfl
  | 45, _ => rfl
  | 46, _ => rfl
  | 47, _ => rfl
  | 48, _ => rfl
  | 49, _ => rfl
  | 50, _ => rfl
  | 51, _ => rfl
  | 52, _ => rfl
  | 53, _ => exact absurd rfl h4
  | 54, _ => rfl
  | 55, _ => rfl
  | 56, _ => rfl
  | 57, _ => rfl
  | 58, _ => rfl
  | 59, _ => rfl
  | 60, _ => rfl
  | 61, _ => rfl
  | 62, _ => rfl
  | n + 63, z => omega
theorem entX_2 {H : Heap} (hB : BW D h (L_X (evX h tA adK adV tQ D cA) h) H) : va_at D cls7 (h + 2, ent (evX h tA adK adV tQ D cA) 0 sX0 2) H := at_rf (hB.2 2 (rfE 10 102 (evX h tA adK adV tQ D cA) (fun j => some (h + 1 + 2 + j))) rfl) (fun j hj => by
  have hj : j < 10 := hj
  rcases (show j = 0 ∨ j = 1 ∨ j = 2 ∨ j = 3 ∨ j = 4 ∨ j = 5 ∨ j = 6 ∨ j = 7 ∨ j = 8 ∨ j = 9 by omega) with rfl | rfl | rfl | rfl | rfl | rfl | rfl | rfl | rfl | rfl <;> rfl)
theorem entX_16 {H : Heap} (hB : BW D h (L_X (evX h tA adK adV tQ D cA) h) H) : va_at D cls7 (h + 16, ent (evX h tA adK adV tQ D cA) 0 sX0 16) H := at_rf (hB.2 16 (rfE 10 102 (evX h tA adK adV tQ D cA) (fun j => some (h + 15 + 2 + j))) rfl) (fun j hj => by
  have hj : j < 10 := hj
  rcases (show j = 0 ∨ j = 1 ∨ j = 2 ∨ j = 3 ∨ j = 4 ∨ j = 5 ∨ j = 6 ∨ j = 7 ∨ j = 8 ∨ j = 9 by omega) with rfl | rfl | rfl | rfl | rfl | rfl | rfl | rfl | rfl | rfl <;> rfl)
theorem entX_30 {H : Heap} (hB : BW D h (L_X (evX h tA adK adV tQ D cA) h) H) : va_at D cls7 (h + 30, ent (evX h tA adK adV tQ D cA) 0 sX0 30) H := at_rf (hB.2 30 (rfE 10 102 (evX h tA adK adV tQ D cA) (fun j => some (h + 29 + 2 + j))) rfl) (fun j hj => by
  have hj : j < 10 := hj
  rcases (show j = 0 ∨ j = 1 ∨ j = 2 ∨ j = 3 ∨ j = 4 ∨ j = 5 ∨ j = 6 ∨ j = 7 ∨ j = 8 ∨ j = 9 by omega) with rfl | rfl | rfl | rfl | rfl | rfl | rfl | rfl | rfl | rfl <;> rfl)
theorem entX_53 {H : Heap} (hB : BW D h (L_X (evX h tA adK adV tQ D cA) h) H) : va_at D cls7 (h + 53, ent (evX h tA adK adV tQ D cA) 0 sX0 53) H := at_rf (hB.2 53 (rfE 4 103 (evX h tA adK adV tQ D cA) (va_up (va_up (va_up (va_up (fun _ => none) 0 (some (h + 55))) 1 (some (h + 57))) 2 (some (h + 59))) 3 (some (h + 61)))) rfl) (fun j hj => by
  have hj : j < 4 := hj
  rcases (show j = 0 ∨ j = 1 ∨ j = 2 ∨ j = 3 by omega) with rfl | rfl | rfl | rfl <;> rfl)
set_option maxHeartbeats 40000000 in
theorem entM : ∀ k : Nat, k < 17 → (L_M (evM h D cA) h)[k]? = some (ent (evM h D cA) 1 sM0 k) := by
  intro k hk
  match k, hk with
  | 0, _ => rfl
  | 1, _ => rfl
  | 2, _ => rfl
  | 3, _ => rfl
  | 4, _ => rfl
  | 5, _ => rfl
  | 6, _ => rfl
  | 7, _ => rfl
  | 8, _ => rfl
  | 9, _ => rfl
  | 10, _ => rfl
  | 11, _ => rfl
  | 12, _ => rfl
  | 13, _ => rfl
  | 14, _ => rfl
  | 15, _ => rfl
  | 16, _ => rfl
  | n + 17, z => omega
theorem hldX {H : Heap} (hB : BW D h (L_X (evX h tA adK adV tQ D cA) h) H) : Hld 0 (evX h tA adK adV tQ D cA) sX0 H := fun k q hq => by
  have hk : k < 63 := (wld_mem hq).1
  rw [wld_get (g := 0) hk] at hq
  cases hq
  show va_at D cls7 (adX h tA adK adV tQ k, ent (evX h tA adK adV tQ D cA) 0 sX0 k) H
  rw [adX_o hk]
  by_cases h1 : k = 2
  · subst h1; exact entX_2 hB
  by_cases h2 : k = 16
  · subst h2; exact entX_16 hB
  by_cases h3 : k = 30
  · subst h3; exact entX_30 hB
  by_cases h4 : k = 53
  · subst h4; exact entX_53 hB
  exact hB.2 (offX k) _ (entX k hk h1 h2 h3 h4)
theorem hldM {H : Heap} (hB : BW D h (L_M (evM h D cA) h) H) : Hld 1 (evM h D cA) sM0 H := fun k q hq => by
  have hk : k < 17 := (wld_mem hq).1
  rw [wld_get (g := 1) hk] at hq
  cases hq
  exact hB.2 k _ (entM k hk)
end ST

