/-! the two objects: what holds between their stores -/
/-- the tapes -/
def RT (σ σm : St2) : Prop := ∃ τ, τ ≤ 120 ∧ σm.1 0 11 = nI τ ∧ XT σ (σm.1 8) τ
/-- the images -/
def RK (σ σm : St2) : Prop := (σ.1 0 8 = 0 ∧ σm.1 0 3 = 0) ∨ (σ.1 0 8 = 1 ∧ σm.1 0 3 = 1 ∧ Inv (σm.1 2) ∧ nv (σm.1 2) 0 ≤ 99999 ∧ XC σ 15 (σm.1 2))
/-- the sheets -/
def RS (σ σm : St2) : Prop := ShI (σm.1 13) (σm.1 14) ∧ ∀ j, j < 4 → XS σ j (σm.1 13) (σm.1 14) (σm.1 15)
/-- the findings told -/
def RF (σ σm : St2) : Prop := ∀ w, w < 7 → σ.1 62 w = σm.1 4 w
/-- the chests -/
def RC (σ σm : St2) : Prop := Inv (σm.1 1) ∧ nv (σm.1 1) 0 ≤ 99999 ∧ XC σ 1 (σm.1 1)
def Rel (σ σm : St2) : Prop := RC σ σm ∧ RK σ σm ∧ RT σ σm ∧ RF σ σm ∧ RS σ σm ∧ LtI σm
section RL
variable {σ τ σm τm : St2}
theorem RT_k (h : RT σ σm) (h1 : τ.1 51 = σ.1 51) (h2 : τ.1 52 = σ.1 52) (h3 : τm.1 0 11 = σm.1 0 11) (h4 : τm.1 8 = σm.1 8) : RT τ τm := by
  obtain ⟨t, a, b, c⟩ := h
  exact ⟨t, a, h3.trans b, by unfold XT; rw [h1, h2, h4]; exact c⟩
theorem RK_k (h : RK σ σm) (h1 : τ.1 0 8 = σ.1 0 8) (h2 : ∀ i, 15 ≤ i → i ≤ 28 → τ.1 i = σ.1 i) (h3 : τm.1 0 3 = σm.1 0 3) (h4 : τm.1 2 = σm.1 2) : RK τ τm := by
  rcases h with ⟨a, b⟩ | ⟨a, b, c, d, e⟩
  · exact Or.inl ⟨h1.trans a, h3.trans b⟩
  · exact Or.inr ⟨h1.trans a, h3.trans b, by rw [h4]; exact c, by rw [h4]; exact d, by rw [h4]; exact XC_cong (fun i p q => h2 i p (by omega)) e⟩
theorem RS_k (h : RS σ σm) (h1 : ∀ i, 54 ≤ i → i ≤ 61 → τ.1 i = σ.1 i) (h2 : τm.1 13 = σm.1 13) (h3 : τm.1 14 = σm.1 14) (h4 : τm.1 15 = σm.1 15) : RS τ τm := by
  refine ⟨by rw [h2, h3]; exact h.1, fun j hj => ?_⟩
  rw [h2, h3, h4]
  unfold XS
  rw [h1 (54 + 2 * j) (by omega) (by omega), h1 (54 + 2 * j + 1) (by omega) (by omega)]
  exact h.2 j hj
theorem RF_k (h : RF σ σm) (h1 : τ.1 62 = σ.1 62) (h2 : τm.1 4 = σm.1 4) : RF τ τm := fun w hw => by rw [h1, h2]; exact h w hw
theorem RC_k (h : RC σ σm) (h1 : ∀ i, 1 ≤ i → i ≤ 14 → τ.1 i = σ.1 i) (h2 : τm.1 1 = σm.1 1) : RC τ τm := ⟨by rw [h2]; exact h.1, by rw [h2]; exact h.2.1, by rw [h2]; exact XC_cong (fun i p q => h1 i p (by omega)) h.2.2⟩
theorem Lt_k (h : LtI σm) (h1 : τm.1 9 = σm.1 9) (h2 : τm.1 10 = σm.1 10) (h3 : τm.1 11 = σm.1 11) (h4 : τm.1 12 = σm.1 12) : LtI τm := by
  unfold LtI
  rw [h1, h2, h3, h4]
  exact h
/-- scratch cells change -/
theorem Rel_W (h : Rel σ σm) (hw : Wf σ τ) (hs : Sm σm τm) : Rel τ τm :=
  ⟨RC_k h.1 (fun i p q => hw i (by omega)) (hs.1 1 rfl), RK_k h.2.1 (by rw [hw 0 (by omega)]) (fun i p q => hw i (by omega)) hs.2.1 (hs.1 2 rfl), RT_k h.2.2.1 (hw 51 (by omega)) (hw 52 (by omega)) hs.2.2 (hs.1 8 rfl), RF_k h.2.2.2.1 (hw 62 (by omega)) (hs.1 4 rfl), RS_k h.2.2.2.2.1 (fun i p q => hw i (by omega)) (hs.1 13 rfl) (hs.1 14 rfl) (hs.1 15 rfl), Lt_k h.2.2.2.2.2 (hs.1 9 rfl) (hs.1 10 rfl) (hs.1 11 rfl) (hs.1 12 rfl)⟩
/-- a finding is told -/
theorem Rel_no (h : Rel σ σm) (q : Nat) (hq : q < 7) (w : Int32) (hw : w = nI q) : Rel (noX σ q) (noS σm w) := by
  have e : noS σm w = sr σm 4 (upd (σm.1 4) q (σm.1 4 q + 1)) := by
    unfold noS
    rw [hw, nI_clamp (by omega), si_is]
  rw [e]
  have hX : ∀ i, i ≠ 62 → (noX σ q).1 i = σ.1 i := fun i hi => sr1n hi
  have hM : ∀ i, i ≠ 4 → (sr σm 4 (upd (σm.1 4) q (σm.1 4 q + 1))).1 i = σm.1 i := fun i hi => sr1n hi
  refine ⟨RC_k h.1 (fun i p q => hX i (by omega)) (hM 1 (by decide)), RK_k h.2.1 (by rw [hX 0 (by decide)]) (fun i p q => hX i (by omega)) (by rw [hM 0 (by decide)]) (hM 2 (by decide)), RT_k h.2.2.1 (hX 51 (by decide)) (hX 52 (by decide)) (by rw [hM 0 (by decide)]) (hM 8 (by decide)), fun v hv => ?_, RS_k h.2.2.2.2.1 (fun i p q => hX i (by omega)) (hM 13 (by decide)) (hM 14 (by decide)) (hM 15 (by decide)), Lt_k h.2.2.2.2.2 (hM 9 (by decide)) (hM 10 (by decide)) (hM 11 (by decide)) (hM 12 (by decide))⟩
  rw [show noX σ q = sr σ 62 (upd (σ.1 62) q (σ.1 62 q + 1)) from rfl, sr1, sr1, updI, updI, h.2.2.2.1 v hv, h.2.2.2.1 q hq]
/-- the chest changes -/
theorem Rel_C (h : Rel σ σm) {S : Nat → Int32} (hc : Cf 1 σ τ) (hX : XC τ 1 S) (hI : Inv S) (h0 : nv S 0 ≤ 99999) : Rel τ (sr σm 1 S) := by
  have hM : ∀ i, i ≠ 1 → (sr σm 1 S).1 i = σm.1 i := fun i hi => sr1n hi
  have e1 : (sr σm 1 S).1 1 = S := sr1
  exact ⟨⟨by rw [e1]; exact hI, by rw [e1]; exact h0, by rw [e1]; exact hX⟩, RK_k h.2.1 (by rw [hc 0 (by omega)]) (fun i p q => hc i (by omega)) (by rw [hM 0 (by decide)]) (hM 2 (by decide)), RT_k h.2.2.1 (hc 51 (by omega)) (hc 52 (by omega)) (by rw [hM 0 (by decide)]) (hM 8 (by decide)), RF_k h.2.2.2.1 (hc 62 (by omega)) (hM 4 (by decide)), RS_k h.2.2.2.2.1 (fun i p q => hc i (by omega)) (hM 13 (by decide)) (hM 14 (by decide)) (hM 15 (by decide)), Lt_k h.2.2.2.2.2 (hM 9 (by decide)) (hM 10 (by decide)) (hM 11 (by decide)) (hM 12 (by decide))⟩
/-- the sheets change -/
theorem Rel_S (h : Rel σ σm) {W N C : Nat → Int32} (hf : Sf σ τ) (hM : ∀ i, i ≠ 13 → i ≠ 14 → i ≠ 15 → i ≠ 16 → τm.1 i = σm.1 i) (e13 : τm.1 13 = W) (e14 : τm.1 14 = N) (e15 : τm.1 15 = C) (hSh : ShI W N) (hS : ∀ j, j < 4 → XS τ j W N C) : Rel τ τm :=
  ⟨RC_k h.1 (fun i p q => hf i (by omega)) (hM 1 (by decide) (by decide) (by decide) (by decide)), RK_k h.2.1 (by rw [hf 0 (by omega)]) (fun i p q => hf i (by omega)) (by rw [hM 0 (by decide) (by decide) (by decide) (by decide)]) (hM 2 (by decide) (by decide) (by decide) (by decide)), RT_k h.2.2.1 (hf 51 (by omega)) (hf 52 (by omega)) (by rw [hM 0 (by decide) (by decide) (by decide) (by decide)]) (hM 8 (by decide) (by decide) (by decide) (by decide)), RF_k h.2.2.2.1 (hf 62 (by omega)) (hM 4 (by decide) (by decide) (by decide) (by decide)), ⟨by rw [e13, e14]; exact hSh, by rw [e13, e14, e15]; exact hS⟩, Lt_k h.2.2.2.2.2 (hM 9 (by decide) (by decide) (by decide) (by decide)) (hM 10 (by decide) (by decide) (by decide) (by decide)) (hM 11 (by decide) (by decide) (by decide) (by decide)) (hM 12 (by decide) (by decide) (by decide) (by decide))⟩
/-- the tape changes -/
theorem Rel_T (h : Rel σ σm) (hf : Tf σ τ) (hM : ∀ i, i ≠ 0 → i ≠ 8 → τm.1 i = σm.1 i) (h3 : τm.1 0 3 = σm.1 0 3) (hT : RT τ τm) : Rel τ τm :=
  ⟨RC_k h.1 (fun i p q => hf i (by omega) (by omega)) (hM 1 (by decide) (by decide)), RK_k h.2.1 (by rw [hf 0 (by omega) (by omega)]) (fun i p q => hf i (by omega) (by omega)) h3 (hM 2 (by decide) (by decide)), hT, RF_k h.2.2.2.1 (hf 62 (by omega) (by omega)) (hM 4 (by decide) (by decide)), RS_k h.2.2.2.2.1 (fun i p q => hf i (by omega) (by omega)) (hM 13 (by decide) (by decide)) (hM 14 (by decide) (by decide)) (hM 15 (by decide) (by decide)), Lt_k h.2.2.2.2.2 (hM 9 (by decide) (by decide)) (hM 10 (by decide) (by decide)) (hM 11 (by decide) (by decide)) (hM 12 (by decide) (by decide))⟩
/-- an image comes, goes -/
theorem Rel_K (h : Rel σ σm) (hf : ∀ i, i ≠ 0 → ¬ (15 ≤ i ∧ i ≤ 28) → τ.1 i = σ.1 i) (hM : ∀ i, i ≠ 0 → i ≠ 2 → τm.1 i = σm.1 i) (h11 : τm.1 0 11 = σm.1 0 11) (hK : RK τ τm) : Rel τ τm :=
  ⟨RC_k h.1 (fun i p q => hf i (by omega) (by omega)) (hM 1 (by decide) (by decide)), hK, RT_k h.2.2.1 (hf 51 (by decide) (by omega)) (hf 52 (by decide) (by omega)) h11 (hM 8 (by decide) (by decide)), RF_k h.2.2.2.1 (hf 62 (by omega) (by omega)) (hM 4 (by decide) (by decide)), RS_k h.2.2.2.2.1 (fun i p q => hf i (by omega) (by omega)) (hM 13 (by decide) (by decide)) (hM 14 (by decide) (by decide)) (hM 15 (by decide) (by decide)), Lt_k h.2.2.2.2.2 (hM 9 (by decide) (by decide)) (hM 10 (by decide) (by decide)) (hM 11 (by decide) (by decide)) (hM 12 (by decide) (by decide))⟩
/-- what a state is, is what its first 120 ints are -/
theorem Inv_120 {S S' : Nat → Int32} (h : ∀ i, i < 120 → S' i = S i) (hI : Inv S) : Inv S' := by
  have hn : ∀ i, i < 120 → nv S' i = nv S i := fun i hi => by unfold nv; rw [h i hi]
  have hr : ∀ i m, i < 120 → rg S i m → rg S' i m := fun i m hi hr => ⟨by rw [hn i hi, h i hi]; exact hr.1, by rw [hn i hi]; exact hr.2⟩
  have h3 := hI.1.2
  obtain ⟨a, b, c, d, e, f, g, k, l, m⟩ := hI
  refine ⟨hr _ _ (by decide) a, ⟨hr _ _ (by decide) b.1, by rw [hn 2 (by decide), hn 3 (by decide)]; exact b.2⟩, hr _ _ (by decide) c, hr _ _ (by decide) d, hr _ _ (by decide) e, ⟨hr _ _ (by decide) f.1, by rw [hn 6 (by decide), hn 3 (by decide)]; exact f.2⟩, hr _ _ (by decide) g, hr _ _ (by decide) k, ?_, ?_⟩
  · rw [hn 3 (by decide)]
    intro q hq
    obtain ⟨c0, c1, c2, c3, c4, c5, c6, c7, c8, c9⟩ := l q hq
    have ht : ∀ w, w < 10 → tr q w < 120 := fun w hw => by unfold tr; omega
    exact ⟨hr _ _ (ht 0 (by decide)) c0, ⟨hr _ _ (ht 1 (by decide)) c1.1, by rw [hn _ (ht 1 (by decide))]; exact c1.2⟩, hr _ _ (ht 2 (by decide)) c2, hr _ _ (ht 3 (by decide)) c3, hr _ _ (ht 4 (by decide)) c4, hr _ _ (ht 5 (by decide)) c5, hr _ _ (ht 6 (by decide)) c6, hr _ _ (ht 7 (by decide)) c7, hr _ _ (ht 8 (by decide)) c8, hr _ _ (ht 9 (by decide)) c9⟩
  · rw [hn 3 (by decide)]
    intro i hi
    rw [h _ (by omega)]
    exact m i hi
theorem Inv_2 {S : Nat → Int32} {b : Nat} (hI : Inv S) : Inv (upd S 2 (nI (dif (nv S 2) b))) := by
  have hl := dif_le (nv S 2) b
  have h2 := hI.2.1.1.2
  have h2' := hI.2.1.2
  refine Inv_ag (S := S) (fun i hi => updN (by omega)) hI (rg_ne (by decide) hI.2.2.1) ⟨rg_of updS (by omega), ?_⟩
  rw [nv_of updS (by omega)]
  omega
theorem Inv_ld {S N C : Nat → Int32} {j : Nat} (hI : Inv S) : ∀ c, (∀ i, i < c → okL S N C j i) → Inv (ldS S C j c) ∧ nv (ldS S C j c) 0 = nv S 0 ∧ nv (ldS S C j c) 3 = nv S 3
  | 0, _ => ⟨hI, rfl, rfl⟩
  | c + 1, h => by
    obtain ⟨a, b, d⟩ := Inv_ld hI c (fun i hi => h i (by omega))
    obtain ⟨x1, x2, n, n2, n3, n4⟩ := h c (by omega)
    unfold ldS
    rw [n4]
    exact ⟨Inv_changeB a (by omega) (by decide) n2 n3, (nv_ne (by unfold tr; omega)).trans b, (nv_ne (by unfold tr; omega)).trans d⟩
theorem Inv_sp {S : Nat → Int32} {i : Nat} {l : Int32} (hI : Inv S) (hi : i ≤ 9) (h : l = -1 ∨ hasL S l) : Inv (upd S (110 + i) l) := by
  have hn3 := hI.1.2
  have e3 : nv (upd S (110 + i) l) 3 = nv S 3 := nv_ne (by omega)
  obtain ⟨a, b, c, d, e, ⟨f, f'⟩, g, x, k, j⟩ := hI
  refine ⟨rg_ne (by omega) a, ⟨rg_ne (by omega) b.1, by rw [e3, nv_ne (by omega)]; exact b.2⟩, rg_ne (by omega) c, rg_ne (by omega) d, rg_ne (by omega) e, ⟨rg_ne (by omega) f, by rw [e3, nv_ne (by omega)]; exact f'⟩, rg_ne (by omega) g, rg_ne (by omega) x, ?_, ?_⟩
  · rw [e3]
    exact fun k' hk => InvK_ne (fun q _ => by unfold tr; omega) (k k' hk)
  · rw [e3]
    intro q hq
    rw [updI]
    by_cases c1 : 110 + q = 110 + i
    · rw [if_pos c1]; exact h
    · rw [if_neg c1]; exact j q hq
theorem pcn_pos {m : Nat} (hm : m < 1024) (h : m ≠ 0) : 0 < pcn m := by
  obtain ⟨j, hj, hb⟩ := bit_ex hm h
  rcases Nat.eq_zero_or_pos (pcn m) with z | z
  · have hpb : ∀ n, j < n → 0 < pcU m n := by
      intro n
      induction n with
      | zero => intro h; omega
      | succ n ihm =>
        intro h
        unfold pcU
        by_cases e : j = n
        · subst e; rw [if_pos hb]; omega
        · have := ihm (by omega); omega
    have := hpb 10 hj
    unfold pcn at z
    omega
  · exact z
theorem fri_ok : ∀ f i S, i + f ≤ 20 → Inv S → nv S 0 ≤ 130 * i → Inv (friU f S).2 ∧ nv (friU f S).2 0 ≤ 130 * 20
  | 0, i, S, hi, hI, h0 => ⟨hI, by show nv S 0 ≤ _; omega⟩
  | f + 1, i, S, hi, hIS, h0S => by
    have hn3 := hIS.1.2
    have hT := p2le _ hn3
    have hml := mayN_lt S (nv S 2)
    unfold friU
    by_cases c1 : mayN S (nv S 2) = 0 ∨ outP S (nv S 2)
    · rw [cif_y c1]
      exact ⟨hIS, by show nv S 0 ≤ _; omega⟩
    rw [cif_n c1]
    have hpp := pcn_pos (show mayN S (nv S 2) < 1024 by omega) (fun z => c1 (Or.inl z))
    have hmod := Nat.mod_lt (drN (drZ (S 9))) hpp
    obtain ⟨hkb, hk10⟩ := nthF_ok (show mayN S (nv S 2) < 1024 by omega) hmod
    have hkn := (mayN_bit.mp hkb).1
    have hI9 := Inv_9 (v := drZ (drZ (S 9))) hIS
    have n2 : nv (upd S 9 (drZ (drZ (S 9)))) 2 = nv S 2 := nv_ne (by decide)
    have n3 : nv (upd S 9 (drZ (drZ (S 9)))) 3 = nv S 3 := nv_ne (by decide)
    have n0 : nv (upd S 9 (drZ (drZ (S 9)))) 0 = nv S 0 := nv_ne (by decide)
    generalize hkk : nthF (mayN S (nv S 2)) (drN (drZ (S 9)) % pcn (mayN S (nv S 2))) = k at *
    generalize hS1 : upd S 9 (drZ (drZ (S 9))) = S1 at *
    by_cases c3 : drN (drZ (drZ (S 9))) % 10 < nv S (tr k 7)
    · rw [if_pos c3]
      exact fri_ok f (i + 1) S1 (by omega) hI9 (by omega)
    · rw [if_neg c3]
      have htk := takes_le hI9 (k := k) (o := nv S1 2) (by rw [n3]; exact hkn)
      obtain ⟨g1, g2, g3⟩ := Inv_stS hI9 (k := k) (by rw [n3]; exact hkn) (by rw [n0]; omega)
      exact fri_ok f (i + 1) (stS S1 k) (by omega) g1 (by rw [g3, n0]; omega)
theorem nv0_of {S S' : Nat → Int32} (h : S' 0 = S 0) (h0 : nv S 0 ≤ 99999) : nv S' 0 ≤ 99999 := by unfold nv at *; rw [h]; exact h0
theorem or_L (S : Nat → Int32) (l : Int32) : ¬ hasL S l ∨ ∃ k, k < nv S 3 ∧ l = nI k := (Classical.em (hasL S l)).elim Or.inr Or.inl
theorem or_R (v : Int32) (a m : Nat) : ¬ rgI v a m ∨ ∃ n, a ≤ n ∧ n ≤ m ∧ v = nI n := (Classical.em (rgI v a m)).elim Or.inr Or.inl
theorem nI_i {a b : Nat} (h : nI a = nI b) (ha : a < 2147483648) (hb : b < 2147483648) : a = b := (nI_eq_iff ha hb).mp h
end RL
