/-! locals -/
theorem mv_cat (ev : EV) (v : Value) : (mv ev v).category = v.category := by cases v <;> rfl
theorem la_ge (l : List Value) : ∀ (b : Nat) (q : Nat × Value), q ∈ lv_args b l → b ≤ q.1 := by
  induction l with
  | nil => intro b q h; cases h
  | cons v l ih =>
    intro b q h
    rcases List.mem_cons.mp h with rfl | h
    · exact Nat.le_refl _
    · have := ih _ q h
      split at this <;> omega
theorem la_cons (b : Nat) (v : Value) (l : List Value) : lv_args b (v :: l) = (b, v) :: lv_args (b + v.category) l := by
  show (b, v) :: lv_args (if v.category = 2 then b + 2 else b + 1) l = _
  rcases lv_cat v with h | h <;> rw [h] <;> rfl
theorem lvGet_mem (ev : EV) : ∀ (ls : List Value) (n b : Nat) (v : Value), lvGet ls n = some v → (b + n, mv ev v) ∈ lv_args b (ls.map (mv ev)) := by
  intro ls n
  induction ls, n using lvGet.induct with
  | case1 n => intro b v h; simp [lvGet] at h
  | case2 w l => intro b v h; simp [lvGet] at h; subst h; rw [List.map_cons, la_cons]; exact List.mem_cons_self
  | case3 x l => intro b v h; simp [lvGet] at h
  | case4 x l n ih => intro b v h; rw [lvGet] at h; rw [List.map_cons, la_cons]; have := ih (b + 2) v h; rw [show b + 2 + n = b + (n + 2) by omega] at this; exact List.mem_cons_of_mem _ this
  | case5 x l => intro b v h; simp [lvGet] at h
  | case6 x l n ih => intro b v h; rw [lvGet] at h; rw [List.map_cons, la_cons]; have := ih (b + 2) v h; rw [show b + 2 + n = b + (n + 2) by omega] at this; exact List.mem_cons_of_mem _ this
  | case7 w l n h1 h2 h3 h4 ih =>
    intro b v h
    have hw : w.category = 1 := by
      cases w <;> first | rfl | skip
      · cases n with
        | zero => exact absurd rfl (h1 _ rfl)
        | succ n => exact absurd rfl (h2 _ _ rfl)
      · cases n with
        | zero => exact absurd rfl (h3 _ rfl)
        | succ n => exact absurd rfl (h4 _ _ rfl)
    have e : lvGet (w :: l) (n + 1) = lvGet l n := by cases w <;> first | (cases n <;> rfl) | (simp [Value.category] at hw)
    rw [e] at h
    rw [List.map_cons, la_cons, mv_cat, hw]
    have := ih (b + 1) v h
    rw [show b + 1 + n = b + (n + 1) by omega] at this
    exact List.mem_cons_of_mem _ this
theorem lvGet_ok {ev : EV} {ms : Array Slot} {nL : Nat} {ls : List Value} {n : Nat} {v : Value} (h : lv_has ms nL (lv_args 0 (ls.map (mv ev)))) (hg : lvGet ls n = some v) : ms[n]? = some (.val (mv ev v)) := by
  have := h.2.2 _ (lvGet_mem ev ls n 0 v hg)
  simpa using this
theorem sameCat_eq {w v : Value} (h : sameCat w v = true) : w.category = v.category := by
  cases w <;> cases v <;> first | rfl | (simp [sameCat] at h)
theorem lvSet_mem (ev : EV) : ∀ (ls : List Value) (n : Nat) (v : Value) (b : Nat) (ls' : List Value), lvSet ls n v = some ls' → ∀ q ∈ lv_args b (ls'.map (mv ev)), q = (b + n, mv ev v) ∨ (q ∈ lv_args b (ls.map (mv ev)) ∧ q.1 ≠ b + n ∧ ¬ (q.1 + 1 = b + n ∧ q.2.category = 2) ∧ (v.category = 2 → q.1 ≠ b + n + 1)) := by
  intro ls
  induction hL : ls.length generalizing ls with
  | zero =>
    intro n v b ls' h q hq
    have : ls = [] := List.eq_nil_of_length_eq_zero hL
    subst this
    cases n with
    | zero => simp [lvSet] at h; subst h; rw [List.map_cons, la_cons] at hq; rcases List.mem_cons.mp hq with rfl | h; exact Or.inl rfl; cases h
    | succ n => simp [lvSet] at h
  | succ N ih =>
    intro n v b ls' h q hq
    obtain ⟨w, l, rfl⟩ : ∃ w l, ls = w :: l := by cases ls with
      | nil => simp at hL
      | cons w l => exact ⟨w, l, rfl⟩
    have hl : l.length = N := by simpa using hL
    cases n with
    | zero =>
      have e : lvSet (w :: l) 0 v = if sameCat w v then some (v :: l) else some [v] := by cases w <;> rfl
      rw [e] at h
      split at h
      next hs =>
        cases h
        rw [List.map_cons, la_cons] at hq
        rcases List.mem_cons.mp hq with rfl | h
        · exact Or.inl rfl
        · have hg := la_ge _ _ _ h
          rw [mv_cat] at hg h
          have hc := sameCat_eq hs
          refine Or.inr ⟨?_, ?_, ?_, ?_⟩
          · rw [List.map_cons, la_cons, mv_cat, hc]; exact List.mem_cons_of_mem _ h
          · rcases lv_cat v with z | z <;> omega
          · rcases lv_cat v with z | z <;> omega
          · intro z; omega
      next =>
        cases h
        rw [List.map_cons, la_cons] at hq
        rcases List.mem_cons.mp hq with rfl | h
        · exact Or.inl rfl
        · cases h
    | succ n =>
      have key : ∀ (k n' : Nat) (l' : List Value), k = w.category → n + 1 = n' + k → lvSet l n' v = some l' → ls' = w :: l' → (q = (b + (n + 1), mv ev v) ∨ (q ∈ lv_args b ((w :: l).map (mv ev)) ∧ q.1 ≠ b + (n + 1) ∧ ¬ (q.1 + 1 = b + (n + 1) ∧ q.2.category = 2) ∧ (v.category = 2 → q.1 ≠ b + (n + 1) + 1))) := by
        intro k n' l' hk hn hs he
        subst he
        rw [List.map_cons, la_cons] at hq
        rcases List.mem_cons.mp hq with rfl | h1
        · refine Or.inr ⟨by rw [List.map_cons, la_cons]; exact List.mem_cons_self, by simp only; omega, ?_, fun _ => by simp only; omega⟩
          simp only [mv_cat]
          rintro ⟨h2, h3⟩
          omega
        · rw [mv_cat, ← hk] at h1
          rcases ih l hl n' v (b + k) l' hs q h1 with h2 | ⟨h2, h3, h4, h5⟩
          · left; rw [h2]; congr 1; omega
          · refine Or.inr ⟨?_, by omega, ?_, fun z => by have := h5 z; omega⟩
            · rw [List.map_cons, la_cons, mv_cat, ← hk]; exact List.mem_cons_of_mem _ h2
            · rw [show b + (n + 1) = b + k + n' by omega]; exact h4
      have step1 : ∀ (_ : w.category = 1) (_ : lvSet (w :: l) (n + 1) v = (lvSet l n v).map (w :: ·)), (q = (b + (n + 1), mv ev v) ∨ (q ∈ lv_args b ((w :: l).map (mv ev)) ∧ q.1 ≠ b + (n + 1) ∧ ¬ (q.1 + 1 = b + (n + 1) ∧ q.2.category = 2) ∧ (v.category = 2 → q.1 ≠ b + (n + 1) + 1))) := by
        intro hw e
        rw [e] at h
        cases hs : lvSet l n v with
        | none => rw [hs] at h; cases h
        | some l' => rw [hs] at h; cases h; exact key 1 n l' hw.symm rfl hs rfl
      cases w with
      | long x =>
        cases n with
        | zero => simp [lvSet] at h
        | succ n =>
          rw [lvSet] at h
          cases hs : lvSet l n v with
          | none => rw [hs] at h; cases h
          | some l' => rw [hs] at h; cases h; exact key 2 n l' rfl rfl hs rfl
      | double x =>
        cases n with
        | zero => simp [lvSet] at h
        | succ n =>
          rw [lvSet] at h
          cases hs : lvSet l n v with
          | none => rw [hs] at h; cases h
          | some l' => rw [hs] at h; cases h; exact key 2 n l' rfl rfl hs rfl
      | int x => exact step1 rfl (by cases n <;> rfl)
      | float x => exact step1 rfl (by cases n <;> rfl)
      | null => exact step1 rfl (by cases n <;> rfl)
      | ref x => exact step1 rfl (by cases n <;> rfl)
      | retAddr x => exact step1 rfl (by cases n <;> rfl)
theorem lvSet_1 {ev : EV} {ms : Array Slot} {nL n : Nat} {ls ls' : List Value} {v : Value} (hs : lvSet ls n v = some ls') (h : lv_has ms nL ((n, mv ev v) :: (lv_args 0 (ls.map (mv ev))).filter (fun q => !(q.1 == n) && !(q.1 + 1 == n && q.2.category == 2)))) : lv_has ms nL (lv_args 0 (ls'.map (mv ev))) := by
  refine ⟨h.1, h.2.1, fun q hq => h.2.2 q ?_⟩
  rcases lvSet_mem ev ls n v 0 ls' hs q hq with h1 | ⟨h1, h2, h3, -⟩
  · rw [h1, Nat.zero_add]; exact List.mem_cons_self
  · refine List.mem_cons_of_mem _ (List.mem_filter.mpr ⟨h1, ?_⟩)
    rw [Nat.zero_add] at h2 h3
    simp only [Bool.and_eq_true, Bool.not_eq_true', beq_eq_false_iff_ne, ne_eq, Bool.and_eq_false_iff]
    refine ⟨h2, ?_⟩
    by_cases z : q.1 + 1 = n
    · exact Or.inr (fun y => h3 ⟨z, y⟩)
    · exact Or.inl z
theorem lvSet_2 {ev : EV} {ms : Array Slot} {nL n : Nat} {ls ls' : List Value} {v : Value} (hc : v.category = 2) (hs : lvSet ls n v = some ls') (h : lv_has ms nL ((n, mv ev v) :: (lv_args 0 (ls.map (mv ev))).filter (fun q => !(q.1 == n) && (!(q.1 == n + 1) && !(q.1 + 1 == n && q.2.category == 2))))) : lv_has ms nL (lv_args 0 (ls'.map (mv ev))) := by
  refine ⟨h.1, h.2.1, fun q hq => h.2.2 q ?_⟩
  rcases lvSet_mem ev ls n v 0 ls' hs q hq with h1 | ⟨h1, h2, h3, h4⟩
  · rw [h1, Nat.zero_add]; exact List.mem_cons_self
  · refine List.mem_cons_of_mem _ (List.mem_filter.mpr ⟨h1, ?_⟩)
    rw [Nat.zero_add] at h2 h3 h4
    simp only [Bool.and_eq_true, Bool.not_eq_true', beq_eq_false_iff_ne, ne_eq, Bool.and_eq_false_iff]
    refine ⟨h2, h4 hc, ?_⟩
    by_cases z : q.1 + 1 = n
    · exact Or.inr (fun y => h3 ⟨z, y⟩)
    · exact Or.inl z
/-! cells -/
theorem wld_get {ev : EV} {g : Nat} {σ : St2} {k : Nat} (h : k < nC g) : (wld ev g σ)[k]? = some (ev.1 k, ent ev g σ k) := by
  simp [wld, h]
theorem wld_len (ev : EV) (g : Nat) (σ : St2) : (wld ev g σ).length = nC g := by simp [wld]
theorem wld_D {ev : EV} {g : Nat} {σ : St2} (h : Inj g ev) : va_D (Af g ev) (wld ev g σ) := by
  have key : ∀ (i : Nat) (p : Nat × va_E), (wld ev g σ)[i]? = some p → i < nC g ∧ p = (ev.1 i, ent ev g σ i) := by
    intro i p hp
    have hi : i < nC g := by rw [← wld_len ev g σ]; exact (List.getElem?_eq_some_iff.mp hp).1
    rw [wld_get hi] at hp
    exact ⟨hi, (Option.some.inj hp).symm⟩
  refine ⟨fun i j p q hi hj e => ?_, fun k q hk => ?_⟩
  · obtain ⟨h1, rfl⟩ := key i p hi
    obtain ⟨h2, rfl⟩ := key j q hj
    exact h i j h1 h2 e
  · obtain ⟨h1, rfl⟩ := key k q hk
    exact ⟨k, h1, rfl⟩
theorem wld_set {ev : EV} {g : Nat} {σ τ : St2} {k : Nat} (h1 : ∀ i, i ≠ k → τ.1 i = σ.1 i) (h2 : ∀ i, i ≠ k → τ.2 i = σ.2 i) : (wld ev g σ).set k (ev.1 k, ent ev g τ k) = wld ev g τ := by
  apply List.ext_getElem?
  intro i
  by_cases hi : i < nC g
  · by_cases hk : i = k
    · subst hk
      rw [List.getElem?_set_self (by rw [wld_len]; exact hi), wld_get hi]
    · rw [List.getElem?_set_ne (Ne.symm hk), wld_get hi, wld_get hi]
      have : ent ev g τ i = ent ev g σ i := by
        unfold ent
        rw [h1 i hk]
        have : fvl ev g τ (shp g i).1 i = fvl ev g σ (shp g i).1 i := by
          funext j
          unfold fvl
          rw [h1 i hk, h2 i hk]
        rw [this]
      rw [this]
  · rw [List.getElem?_eq_none (by rw [List.length_set, wld_len]; omega), List.getElem?_eq_none (by rw [wld_len]; omega)]
theorem ent_o {ev : EV} {g : Nat} {σ : St2} {k c : Nat} (h : (shp g k).1 = c) (hc : c < 7) : ent ev g σ k = .inr (c, (List.range (cN c)).map (fvl ev g σ c k)) := by
  unfold ent
  rw [h, if_pos (by omega)]
theorem ent_i {ev : EV} {g : Nat} {σ : St2} {k c : Nat} (h : (shp g k).1 = c) (hc : c = 100 ∨ c = 101) : ent ev g σ k = .inl (ev.2.2 c, (shp g k).2, .inl (σ.1 k)) := by
  unfold ent
  rw [h, if_neg (by omega), if_pos (by omega)]
theorem ent_r {ev : EV} {g : Nat} {σ : St2} {k c : Nat} (h : (shp g k).1 = c) (hc : c = 102 ∨ c = 103) : ent ev g σ k = .inl (ev.2.2 c, (shp g k).2, .inr (.inr (.inr (.inr (fun j => some (ev.1 (rfs g k j))))))) := by
  unfold ent
  rw [h, if_neg (by omega), if_neg (by omega)]
