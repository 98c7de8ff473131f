/-! a block: its weakest precondition holds of the machine -/
section NB
variable {g : Nat} {ev : EV} {μ pc : Nat} {ls st : List Value} {σ : St2} {Post : PO} {Sp : SPT} {K : KT} {a b c : Nat} {v : Int32} {q : Instr × Nat}
theorem sI_0 (hSp : ∀ y as σ K, Sp y as σ K → Rn g ev y as σ K) (hq : rawI (0, a, b, c, v) = some q) (hd : decode (mB μ) pc = .ok q) (hres : resI μ (0, a, b, c, v) = true) (hw : wpI g Sp (0, a, b, c, v) ls st σ K) (hk : ∀ ls st σ, K ls st σ → PW g ev μ (pc + q.2) ls st σ Post) : PW g ev μ pc ls st σ Post := by
  unfold rawI at hq
  simp only at hq
  have hres' : (if a < 3 then (if a = 0 then Int32.ofInt v.toInt == v else if a = 1 then (Int8.ofInt v.toInt).toInt32 == v else (Int16.ofInt v.toInt).toInt32 == v) else ctab.any (fun e => e.1 == mC μ && e.2.1 == (if a % 2 = 1 then (a - 3) / 2 else (a - 4) / 2) && e.2.2.1 == v)) = true := hres
  have hw' : K ls (.int v :: st) σ := hw
  by_cases h0 : a = 0
  · rw [if_pos h0] at hq
    cases hq
    rw [if_pos (by omega), if_pos h0] at hres'
    exact n_iconst hd (beq_iff_eq.mp hres') (hk _ _ _ hw')
  rw [if_neg h0] at hq
  by_cases h1 : a = 1
  · rw [if_pos h1] at hq
    cases hq
    rw [if_pos (by omega), if_neg h0, if_pos h1] at hres'
    exact n_bipush hd (beq_iff_eq.mp hres') (hk _ _ _ hw')
  rw [if_neg h1] at hq
  by_cases h2 : a = 2
  · rw [if_pos h2] at hq
    cases hq
    rw [if_pos (by omega), if_neg h0, if_neg h1] at hres'
    exact n_sipush hd (beq_iff_eq.mp hres') (hk _ _ _ hw')
  rw [if_neg h2] at hq
  rw [if_neg (by omega)] at hres'
  have hw2 := ctab_use hres'
  by_cases h3 : a % 2 = 1
  · rw [if_pos h3] at hq hw2
    cases hq
    exact n_ldc hd hw2 (hk _ _ _ hw')
  · rw [if_neg h3] at hq hw2
    cases hq
    exact n_ldcw hd hw2 (hk _ _ _ hw')
theorem sI_1 (hSp : ∀ y as σ K, Sp y as σ K → Rn g ev y as σ K) (hq : rawI (1, a, b, c, v) = some q) (hd : decode (mB μ) pc = .ok q) (hres : resI μ (1, a, b, c, v) = true) (hw : wpI g Sp (1, a, b, c, v) ls st σ K) (hk : ∀ ls st σ, K ls st σ → PW g ev μ (pc + q.2) ls st σ Post) : PW g ev μ pc ls st σ Post := by
  have hw' : (match lvGet ls a with | some (.int x) => K ls (.int x :: st) σ | _ => False) := hw
  split at hw'
  next x hx =>
    have hq' : (if h : a < 4 then some (Instr.iload_n ⟨a, h⟩, 1) else some (Instr.iload a, 2)) = some q := hq
    by_cases h : a < 4
    · rw [dif_pos h] at hq'
      cases hq'
      exact n_iload_n hd hx (hk _ _ _ hw')
    · rw [dif_neg h] at hq'
      cases hq'
      exact n_iload hd hx (hk _ _ _ hw')
  next => exact hw'.elim
theorem sI_2 (hSp : ∀ y as σ K, Sp y as σ K → Rn g ev y as σ K) (hq : rawI (2, a, b, c, v) = some q) (hd : decode (mB μ) pc = .ok q) (hres : resI μ (2, a, b, c, v) = true) (hw : wpI g Sp (2, a, b, c, v) ls st σ K) (hk : ∀ ls st σ, K ls st σ → PW g ev μ (pc + q.2) ls st σ Post) : PW g ev μ pc ls st σ Post := by
  have hw' : (match lvGet ls a with | some (.ref x) => K ls (.ref x :: st) σ | _ => False) := hw
  split at hw'
  next x hx =>
    have hq' : (if h : a < 4 then some (Instr.aload_n ⟨a, h⟩, 1) else some (Instr.aload a, 2)) = some q := hq
    by_cases h : a < 4
    · rw [dif_pos h] at hq'
      cases hq'
      exact n_aload_n hd hx (hk _ _ _ hw')
    · rw [dif_neg h] at hq'
      cases hq'
      exact n_aload hd hx (hk _ _ _ hw')
  next => exact hw'.elim
theorem sI_3 (hSp : ∀ y as σ K, Sp y as σ K → Rn g ev y as σ K) (hq : rawI (3, a, b, c, v) = some q) (hd : decode (mB μ) pc = .ok q) (hres : resI μ (3, a, b, c, v) = true) (hw : wpI g Sp (3, a, b, c, v) ls st σ K) (hk : ∀ ls st σ, K ls st σ → PW g ev μ (pc + q.2) ls st σ Post) : PW g ev μ pc ls st σ Post := by
  have hw' : (match lvGet ls a with | some (.long x) => K ls (.long x :: st) σ | _ => False) := hw
  split at hw'
  next x hx =>
    have hq' : (if h : a < 4 then some (Instr.lload_n ⟨a, h⟩, 1) else some (Instr.lload a, 2)) = some q := hq
    by_cases h : a < 4
    · rw [dif_pos h] at hq'
      cases hq'
      exact n_lload_n hd hx (hk _ _ _ hw')
    · rw [dif_neg h] at hq'
      cases hq'
      exact n_lload hd hx (hk _ _ _ hw')
  next => exact hw'.elim
theorem sI_4 (hSp : ∀ y as σ K, Sp y as σ K → Rn g ev y as σ K) (hq : rawI (4, a, b, c, v) = some q) (hd : decode (mB μ) pc = .ok q) (hres : resI μ (4, a, b, c, v) = true) (hw : wpI g Sp (4, a, b, c, v) ls st σ K) (hk : ∀ ls st σ, K ls st σ → PW g ev μ (pc + q.2) ls st σ Post) : PW g ev μ pc ls st σ Post := by
  rcases st with _ | ⟨w, st⟩
  · exact False.elim hw
  cases w <;> first | exact False.elim hw | skip
  rename_i x
  have hw' : (match lvSet ls a (.int x) with | some ls => K ls st σ | none => False) := hw
  have hlim : a < mX μ := of_decide_eq_true hres
  split at hw'
  next ls' hx =>
    have hq' : (if h : a < 4 then some (Instr.istore_n ⟨a, h⟩, 1) else some (Instr.istore a, 2)) = some q := hq
    by_cases h : a < 4
    · rw [dif_pos h] at hq'
      cases hq'
      exact n_istore_n hd hlim hx (hk _ _ _ hw')
    · rw [dif_neg h] at hq'
      cases hq'
      exact n_istore hd hlim hx (hk _ _ _ hw')
  next => exact hw'.elim
theorem sI_5 (hSp : ∀ y as σ K, Sp y as σ K → Rn g ev y as σ K) (hq : rawI (5, a, b, c, v) = some q) (hd : decode (mB μ) pc = .ok q) (hres : resI μ (5, a, b, c, v) = true) (hw : wpI g Sp (5, a, b, c, v) ls st σ K) (hk : ∀ ls st σ, K ls st σ → PW g ev μ (pc + q.2) ls st σ Post) : PW g ev μ pc ls st σ Post := by
  rcases st with _ | ⟨w, st⟩
  · exact False.elim hw
  cases w <;> first | exact False.elim hw | skip
  rename_i x
  have hw' : (match lvSet ls a (.ref x) with | some ls => K ls st σ | none => False) := hw
  have hlim : a < mX μ := of_decide_eq_true hres
  split at hw'
  next ls' hx =>
    have hq' : (if h : a < 4 then some (Instr.astore_n ⟨a, h⟩, 1) else some (Instr.astore a, 2)) = some q := hq
    by_cases h : a < 4
    · rw [dif_pos h] at hq'
      cases hq'
      exact n_astore_n hd hlim hx (hk _ _ _ hw')
    · rw [dif_neg h] at hq'
      cases hq'
      exact n_astore hd hlim hx (hk _ _ _ hw')
  next => exact hw'.elim
theorem sI_6 (hSp : ∀ y as σ K, Sp y as σ K → Rn g ev y as σ K) (hq : rawI (6, a, b, c, v) = some q) (hd : decode (mB μ) pc = .ok q) (hres : resI μ (6, a, b, c, v) = true) (hw : wpI g Sp (6, a, b, c, v) ls st σ K) (hk : ∀ ls st σ, K ls st σ → PW g ev μ (pc + q.2) ls st σ Post) : PW g ev μ pc ls st σ Post := by
  rcases st with _ | ⟨w, st⟩
  · exact False.elim hw
  cases w <;> first | exact False.elim hw | skip
  rename_i x
  have hw' : (match lvSet ls a (.long x) with | some ls => K ls st σ | none => False) := hw
  have hlim : a + 1 < mX μ := of_decide_eq_true hres
  split at hw'
  next ls' hx =>
    have hq' : (if h : a < 4 then some (Instr.lstore_n ⟨a, h⟩, 1) else some (Instr.lstore a, 2)) = some q := hq
    by_cases h : a < 4
    · rw [dif_pos h] at hq'
      cases hq'
      exact n_lstore_n hd hlim hx (hk _ _ _ hw')
    · rw [dif_neg h] at hq'
      cases hq'
      exact n_lstore hd hlim hx (hk _ _ _ hw')
  next => exact hw'.elim
theorem sI_7 (hSp : ∀ y as σ K, Sp y as σ K → Rn g ev y as σ K) (hq : rawI (7, a, b, c, v) = some q) (hd : decode (mB μ) pc = .ok q) (hres : resI μ (7, a, b, c, v) = true) (hw : wpI g Sp (7, a, b, c, v) ls st σ K) (hk : ∀ ls st σ, K ls st σ → PW g ev μ (pc + q.2) ls st σ Post) : PW g ev μ pc ls st σ Post := by
  have hw' : (match lvGet ls a with | some (.int x) => (match lvSet ls a (.int (x + v)) with | some ls => K ls st σ | none => False) | _ => False) := hw
  have hr : (decide (a < mX μ) && Int32.ofInt v.toInt == v) = true := hres
  simp only [Bool.and_eq_true, decide_eq_true_eq, beq_iff_eq] at hr
  split at hw'
  next x hx =>
    split at hw'
    next ls' hy =>
      cases hq
      exact n_iinc hd hr.1 hr.2 hx hy (hk _ _ _ hw')
    next => exact hw'.elim
  next => exact hw'.elim
theorem sI_8 (hSp : ∀ y as σ K, Sp y as σ K → Rn g ev y as σ K) (hq : rawI (8, a, b, c, v) = some q) (hd : decode (mB μ) pc = .ok q) (hres : resI μ (8, a, b, c, v) = true) (hw : wpI g Sp (8, a, b, c, v) ls st σ K) (hk : ∀ ls st σ, K ls st σ → PW g ev μ (pc + q.2) ls st σ Post) : PW g ev μ pc ls st σ Post := by
  cases hq
  rcases st with _ | ⟨w, st⟩
  · exact False.elim hw
  cases w <;> first | exact False.elim hw | skip
  · exact n_dup hd rfl (hk _ _ _ hw)
  · exact n_dup hd rfl (hk _ _ _ hw)
theorem sI_9 (hSp : ∀ y as σ K, Sp y as σ K → Rn g ev y as σ K) (hq : rawI (9, a, b, c, v) = some q) (hd : decode (mB μ) pc = .ok q) (hres : resI μ (9, a, b, c, v) = true) (hw : wpI g Sp (9, a, b, c, v) ls st σ K) (hk : ∀ ls st σ, K ls st σ → PW g ev μ (pc + q.2) ls st σ Post) : PW g ev μ pc ls st σ Post := by
  cases hq
  rcases st with _ | ⟨w, st⟩
  · exact False.elim hw
  cases w <;> first | exact False.elim hw | skip
  · exact n_pop hd rfl (hk _ _ _ hw)
  · exact n_pop hd rfl (hk _ _ _ hw)
theorem sI_10 (hSp : ∀ y as σ K, Sp y as σ K → Rn g ev y as σ K) (hq : rawI (10, a, b, c, v) = some q) (hd : decode (mB μ) pc = .ok q) (hres : resI μ (10, a, b, c, v) = true) (hw : wpI g Sp (10, a, b, c, v) ls st σ K) (hk : ∀ ls st σ, K ls st σ → PW g ev μ (pc + q.2) ls st σ Post) : PW g ev μ pc ls st σ Post := by
  cases hq
  rcases st with _ | ⟨w, st⟩
  · exact False.elim hw
  rcases st with _ | ⟨w2, st⟩
  · cases w <;> exact False.elim hw
  cases w <;> first | (cases w2 <;> exact False.elim hw) | skip
  cases w2 <;> first | exact False.elim hw | skip
  · exact n_dup2 hd rfl rfl (hk _ _ _ hw)
  · exact n_dup2 hd rfl rfl (hk _ _ _ hw)
theorem sI_11 (hSp : ∀ y as σ K, Sp y as σ K → Rn g ev y as σ K) (hq : rawI (11, a, b, c, v) = some q) (hd : decode (mB μ) pc = .ok q) (hres : resI μ (11, a, b, c, v) = true) (hw : wpI g Sp (11, a, b, c, v) ls st σ K) (hk : ∀ ls st σ, K ls st σ → PW g ev μ (pc + q.2) ls st σ Post) : PW g ev μ pc ls st σ Post := by
  cases hq
  rcases st with _ | ⟨w0, st⟩
  · first | exact False.elim hw
  rcases st with _ | ⟨w1, st⟩
  · first | exact False.elim hw | (cases w0 <;> exact False.elim hw)
  cases w0 <;> first | exact False.elim hw | (cases w1 <;> exact False.elim hw) | skip
  rename_i y
  cases w1 <;> first | exact False.elim hw | skip
  rename_i x
  exact n_iadd hd (hk _ _ _ hw)
theorem sI_12 (hSp : ∀ y as σ K, Sp y as σ K → Rn g ev y as σ K) (hq : rawI (12, a, b, c, v) = some q) (hd : decode (mB μ) pc = .ok q) (hres : resI μ (12, a, b, c, v) = true) (hw : wpI g Sp (12, a, b, c, v) ls st σ K) (hk : ∀ ls st σ, K ls st σ → PW g ev μ (pc + q.2) ls st σ Post) : PW g ev μ pc ls st σ Post := by
  cases hq
  rcases st with _ | ⟨w0, st⟩
  · first | exact False.elim hw
  rcases st with _ | ⟨w1, st⟩
  · first | exact False.elim hw | (cases w0 <;> exact False.elim hw)
  cases w0 <;> first | exact False.elim hw | (cases w1 <;> exact False.elim hw) | skip
  rename_i y
  cases w1 <;> first | exact False.elim hw | skip
  rename_i x
  exact n_isub hd (hk _ _ _ hw)
theorem sI_13 (hSp : ∀ y as σ K, Sp y as σ K → Rn g ev y as σ K) (hq : rawI (13, a, b, c, v) = some q) (hd : decode (mB μ) pc = .ok q) (hres : resI μ (13, a, b, c, v) = true) (hw : wpI g Sp (13, a, b, c, v) ls st σ K) (hk : ∀ ls st σ, K ls st σ → PW g ev μ (pc + q.2) ls st σ Post) : PW g ev μ pc ls st σ Post := by
  cases hq
  rcases st with _ | ⟨w0, st⟩
  · first | exact False.elim hw
  rcases st with _ | ⟨w1, st⟩
  · first | exact False.elim hw | (cases w0 <;> exact False.elim hw)
  cases w0 <;> first | exact False.elim hw | (cases w1 <;> exact False.elim hw) | skip
  rename_i y
  cases w1 <;> first | exact False.elim hw | skip
  rename_i x
  exact n_imul hd (hk _ _ _ hw)
theorem sI_16 (hSp : ∀ y as σ K, Sp y as σ K → Rn g ev y as σ K) (hq : rawI (16, a, b, c, v) = some q) (hd : decode (mB μ) pc = .ok q) (hres : resI μ (16, a, b, c, v) = true) (hw : wpI g Sp (16, a, b, c, v) ls st σ K) (hk : ∀ ls st σ, K ls st σ → PW g ev μ (pc + q.2) ls st σ Post) : PW g ev μ pc ls st σ Post := by
  cases hq
  rcases st with _ | ⟨w0, st⟩
  · first | exact False.elim hw
  rcases st with _ | ⟨w1, st⟩
  · first | exact False.elim hw | (cases w0 <;> exact False.elim hw)
  cases w0 <;> first | exact False.elim hw | (cases w1 <;> exact False.elim hw) | skip
  rename_i y
  cases w1 <;> first | exact False.elim hw | skip
  rename_i x
  exact n_iand hd (hk _ _ _ hw)
theorem sI_17 (hSp : ∀ y as σ K, Sp y as σ K → Rn g ev y as σ K) (hq : rawI (17, a, b, c, v) = some q) (hd : decode (mB μ) pc = .ok q) (hres : resI μ (17, a, b, c, v) = true) (hw : wpI g Sp (17, a, b, c, v) ls st σ K) (hk : ∀ ls st σ, K ls st σ → PW g ev μ (pc + q.2) ls st σ Post) : PW g ev μ pc ls st σ Post := by
  cases hq
  rcases st with _ | ⟨w0, st⟩
  · first | exact False.elim hw
  rcases st with _ | ⟨w1, st⟩
  · first | exact False.elim hw | (cases w0 <;> exact False.elim hw)
  cases w0 <;> first | exact False.elim hw | (cases w1 <;> exact False.elim hw) | skip
  rename_i y
  cases w1 <;> first | exact False.elim hw | skip
  rename_i x
  exact n_ior hd (hk _ _ _ hw)
theorem sI_18 (hSp : ∀ y as σ K, Sp y as σ K → Rn g ev y as σ K) (hq : rawI (18, a, b, c, v) = some q) (hd : decode (mB μ) pc = .ok q) (hres : resI μ (18, a, b, c, v) = true) (hw : wpI g Sp (18, a, b, c, v) ls st σ K) (hk : ∀ ls st σ, K ls st σ → PW g ev μ (pc + q.2) ls st σ Post) : PW g ev μ pc ls st σ Post := by
  cases hq
  rcases st with _ | ⟨w0, st⟩
  · first | exact False.elim hw
  rcases st with _ | ⟨w1, st⟩
  · first | exact False.elim hw | (cases w0 <;> exact False.elim hw)
  cases w0 <;> first | exact False.elim hw | (cases w1 <;> exact False.elim hw) | skip
  rename_i y
  cases w1 <;> first | exact False.elim hw | skip
  rename_i x
  exact n_ixor hd (hk _ _ _ hw)
theorem sI_19 (hSp : ∀ y as σ K, Sp y as σ K → Rn g ev y as σ K) (hq : rawI (19, a, b, c, v) = some q) (hd : decode (mB μ) pc = .ok q) (hres : resI μ (19, a, b, c, v) = true) (hw : wpI g Sp (19, a, b, c, v) ls st σ K) (hk : ∀ ls st σ, K ls st σ → PW g ev μ (pc + q.2) ls st σ Post) : PW g ev μ pc ls st σ Post := by
  cases hq
  rcases st with _ | ⟨w0, st⟩
  · first | exact False.elim hw
  rcases st with _ | ⟨w1, st⟩
  · first | exact False.elim hw | (cases w0 <;> exact False.elim hw)
  cases w0 <;> first | exact False.elim hw | (cases w1 <;> exact False.elim hw) | skip
  rename_i y
  cases w1 <;> first | exact False.elim hw | skip
  rename_i x
  exact n_ishl hd (hk _ _ _ hw)
theorem sI_20 (hSp : ∀ y as σ K, Sp y as σ K → Rn g ev y as σ K) (hq : rawI (20, a, b, c, v) = some q) (hd : decode (mB μ) pc = .ok q) (hres : resI μ (20, a, b, c, v) = true) (hw : wpI g Sp (20, a, b, c, v) ls st σ K) (hk : ∀ ls st σ, K ls st σ → PW g ev μ (pc + q.2) ls st σ Post) : PW g ev μ pc ls st σ Post := by
  cases hq
  rcases st with _ | ⟨w0, st⟩
  · first | exact False.elim hw
  rcases st with _ | ⟨w1, st⟩
  · first | exact False.elim hw | (cases w0 <;> exact False.elim hw)
  cases w0 <;> first | exact False.elim hw | (cases w1 <;> exact False.elim hw) | skip
  rename_i y
  cases w1 <;> first | exact False.elim hw | skip
  rename_i x
  exact n_ishr hd (hk _ _ _ hw)
theorem sI_21 (hSp : ∀ y as σ K, Sp y as σ K → Rn g ev y as σ K) (hq : rawI (21, a, b, c, v) = some q) (hd : decode (mB μ) pc = .ok q) (hres : resI μ (21, a, b, c, v) = true) (hw : wpI g Sp (21, a, b, c, v) ls st σ K) (hk : ∀ ls st σ, K ls st σ → PW g ev μ (pc + q.2) ls st σ Post) : PW g ev μ pc ls st σ Post := by
  cases hq
  rcases st with _ | ⟨w0, st⟩
  · first | exact False.elim hw
  rcases st with _ | ⟨w1, st⟩
  · first | exact False.elim hw | (cases w0 <;> exact False.elim hw)
  cases w0 <;> first | exact False.elim hw | (cases w1 <;> exact False.elim hw) | skip
  rename_i y
  cases w1 <;> first | exact False.elim hw | skip
  rename_i x
  exact n_iushr hd (hk _ _ _ hw)
theorem sI_22 (hSp : ∀ y as σ K, Sp y as σ K → Rn g ev y as σ K) (hq : rawI (22, a, b, c, v) = some q) (hd : decode (mB μ) pc = .ok q) (hres : resI μ (22, a, b, c, v) = true) (hw : wpI g Sp (22, a, b, c, v) ls st σ K) (hk : ∀ ls st σ, K ls st σ → PW g ev μ (pc + q.2) ls st σ Post) : PW g ev μ pc ls st σ Post := by
  cases hq
  rcases st with _ | ⟨w0, st⟩
  · first | exact False.elim hw
  rcases st with _ | ⟨w1, st⟩
  · first | exact False.elim hw | (cases w0 <;> exact False.elim hw)
  cases w0 <;> first | exact False.elim hw | (cases w1 <;> exact False.elim hw) | skip
  rename_i y
  cases w1 <;> first | exact False.elim hw | skip
  rename_i x
  exact n_ladd hd (hk _ _ _ hw)
theorem sI_23 (hSp : ∀ y as σ K, Sp y as σ K → Rn g ev y as σ K) (hq : rawI (23, a, b, c, v) = some q) (hd : decode (mB μ) pc = .ok q) (hres : resI μ (23, a, b, c, v) = true) (hw : wpI g Sp (23, a, b, c, v) ls st σ K) (hk : ∀ ls st σ, K ls st σ → PW g ev μ (pc + q.2) ls st σ Post) : PW g ev μ pc ls st σ Post := by
  cases hq
  rcases st with _ | ⟨w0, st⟩
  · first | exact False.elim hw
  rcases st with _ | ⟨w1, st⟩
  · first | exact False.elim hw | (cases w0 <;> exact False.elim hw)
  cases w0 <;> first | exact False.elim hw | (cases w1 <;> exact False.elim hw) | skip
  rename_i y
  cases w1 <;> first | exact False.elim hw | skip
  rename_i x
  exact n_lsub hd (hk _ _ _ hw)
theorem sI_24 (hSp : ∀ y as σ K, Sp y as σ K → Rn g ev y as σ K) (hq : rawI (24, a, b, c, v) = some q) (hd : decode (mB μ) pc = .ok q) (hres : resI μ (24, a, b, c, v) = true) (hw : wpI g Sp (24, a, b, c, v) ls st σ K) (hk : ∀ ls st σ, K ls st σ → PW g ev μ (pc + q.2) ls st σ Post) : PW g ev μ pc ls st σ Post := by
  cases hq
  rcases st with _ | ⟨w0, st⟩
  · first | exact False.elim hw
  rcases st with _ | ⟨w1, st⟩
  · first | exact False.elim hw | (cases w0 <;> exact False.elim hw)
  cases w0 <;> first | exact False.elim hw | (cases w1 <;> exact False.elim hw) | skip
  rename_i y
  cases w1 <;> first | exact False.elim hw | skip
  rename_i x
  exact n_lmul hd (hk _ _ _ hw)
theorem sI_27 (hSp : ∀ y as σ K, Sp y as σ K → Rn g ev y as σ K) (hq : rawI (27, a, b, c, v) = some q) (hd : decode (mB μ) pc = .ok q) (hres : resI μ (27, a, b, c, v) = true) (hw : wpI g Sp (27, a, b, c, v) ls st σ K) (hk : ∀ ls st σ, K ls st σ → PW g ev μ (pc + q.2) ls st σ Post) : PW g ev μ pc ls st σ Post := by
  cases hq
  rcases st with _ | ⟨w0, st⟩
  · first | exact False.elim hw
  rcases st with _ | ⟨w1, st⟩
  · first | exact False.elim hw | (cases w0 <;> exact False.elim hw)
  cases w0 <;> first | exact False.elim hw | (cases w1 <;> exact False.elim hw) | skip
  rename_i y
  cases w1 <;> first | exact False.elim hw | skip
  rename_i x
  exact n_lcmp hd (hk _ _ _ hw)
theorem sI_14 (hSp : ∀ y as σ K, Sp y as σ K → Rn g ev y as σ K) (hq : rawI (14, a, b, c, v) = some q) (hd : decode (mB μ) pc = .ok q) (hres : resI μ (14, a, b, c, v) = true) (hw : wpI g Sp (14, a, b, c, v) ls st σ K) (hk : ∀ ls st σ, K ls st σ → PW g ev μ (pc + q.2) ls st σ Post) : PW g ev μ pc ls st σ Post := by
  cases hq
  rcases st with _ | ⟨w0, st⟩
  · first | exact False.elim hw
  rcases st with _ | ⟨w1, st⟩
  · first | exact False.elim hw | (cases w0 <;> exact False.elim hw)
  cases w0 <;> first | exact False.elim hw | (cases w1 <;> exact False.elim hw) | skip
  rename_i y
  cases w1 <;> first | exact False.elim hw | skip
  rename_i x
  exact n_idiv hd hw.1 (hk _ _ _ hw.2)
theorem sI_15 (hSp : ∀ y as σ K, Sp y as σ K → Rn g ev y as σ K) (hq : rawI (15, a, b, c, v) = some q) (hd : decode (mB μ) pc = .ok q) (hres : resI μ (15, a, b, c, v) = true) (hw : wpI g Sp (15, a, b, c, v) ls st σ K) (hk : ∀ ls st σ, K ls st σ → PW g ev μ (pc + q.2) ls st σ Post) : PW g ev μ pc ls st σ Post := by
  cases hq
  rcases st with _ | ⟨w0, st⟩
  · first | exact False.elim hw
  rcases st with _ | ⟨w1, st⟩
  · first | exact False.elim hw | (cases w0 <;> exact False.elim hw)
  cases w0 <;> first | exact False.elim hw | (cases w1 <;> exact False.elim hw) | skip
  rename_i y
  cases w1 <;> first | exact False.elim hw | skip
  rename_i x
  exact n_irem hd hw.1 (hk _ _ _ hw.2)
theorem sI_25 (hSp : ∀ y as σ K, Sp y as σ K → Rn g ev y as σ K) (hq : rawI (25, a, b, c, v) = some q) (hd : decode (mB μ) pc = .ok q) (hres : resI μ (25, a, b, c, v) = true) (hw : wpI g Sp (25, a, b, c, v) ls st σ K) (hk : ∀ ls st σ, K ls st σ → PW g ev μ (pc + q.2) ls st σ Post) : PW g ev μ pc ls st σ Post := by
  cases hq
  rcases st with _ | ⟨w0, st⟩
  · first | exact False.elim hw
  rcases st with _ | ⟨w1, st⟩
  · first | exact False.elim hw | (cases w0 <;> exact False.elim hw)
  cases w0 <;> first | exact False.elim hw | (cases w1 <;> exact False.elim hw) | skip
  rename_i y
  cases w1 <;> first | exact False.elim hw | skip
  rename_i x
  exact n_ldiv hd hw.1 (hk _ _ _ hw.2)
theorem sI_26 (hSp : ∀ y as σ K, Sp y as σ K → Rn g ev y as σ K) (hq : rawI (26, a, b, c, v) = some q) (hd : decode (mB μ) pc = .ok q) (hres : resI μ (26, a, b, c, v) = true) (hw : wpI g Sp (26, a, b, c, v) ls st σ K) (hk : ∀ ls st σ, K ls st σ → PW g ev μ (pc + q.2) ls st σ Post) : PW g ev μ pc ls st σ Post := by
  cases hq
  rcases st with _ | ⟨w0, st⟩
  · first | exact False.elim hw
  rcases st with _ | ⟨w1, st⟩
  · first | exact False.elim hw | (cases w0 <;> exact False.elim hw)
  cases w0 <;> first | exact False.elim hw | (cases w1 <;> exact False.elim hw) | skip
  rename_i y
  cases w1 <;> first | exact False.elim hw | skip
  rename_i x
  exact n_lrem hd hw.1 (hk _ _ _ hw.2)
theorem sI_28 (hSp : ∀ y as σ K, Sp y as σ K → Rn g ev y as σ K) (hq : rawI (28, a, b, c, v) = some q) (hd : decode (mB μ) pc = .ok q) (hres : resI μ (28, a, b, c, v) = true) (hw : wpI g Sp (28, a, b, c, v) ls st σ K) (hk : ∀ ls st σ, K ls st σ → PW g ev μ (pc + q.2) ls st σ Post) : PW g ev μ pc ls st σ Post := by
  cases hq
  rcases st with _ | ⟨w0, st⟩
  · first | exact False.elim hw
  cases w0 <;> first | exact False.elim hw | skip
  rename_i x
  exact n_i2l hd (hk _ _ _ hw)
theorem sI_29 (hSp : ∀ y as σ K, Sp y as σ K → Rn g ev y as σ K) (hq : rawI (29, a, b, c, v) = some q) (hd : decode (mB μ) pc = .ok q) (hres : resI μ (29, a, b, c, v) = true) (hw : wpI g Sp (29, a, b, c, v) ls st σ K) (hk : ∀ ls st σ, K ls st σ → PW g ev μ (pc + q.2) ls st σ Post) : PW g ev μ pc ls st σ Post := by
  cases hq
  rcases st with _ | ⟨w0, st⟩
  · first | exact False.elim hw
  cases w0 <;> first | exact False.elim hw | skip
  rename_i x
  exact n_l2i hd (hk _ _ _ hw)
theorem sI_30 (hSp : ∀ y as σ K, Sp y as σ K → Rn g ev y as σ K) (hq : rawI (30, a, b, c, v) = some q) (hd : decode (mB μ) pc = .ok q) (hres : resI μ (30, a, b, c, v) = true) (hw : wpI g Sp (30, a, b, c, v) ls st σ K) (hk : ∀ ls st σ, K ls st σ → PW g ev μ (pc + q.2) ls st σ Post) : PW g ev μ pc ls st σ Post := by
  cases hq
  rcases st with _ | ⟨w0, st⟩
  · first | exact False.elim hw
  cases w0 <;> first | exact False.elim hw | skip
  rename_i x
  exact n_i2b hd (hk _ _ _ hw)
theorem sI_31 (hSp : ∀ y as σ K, Sp y as σ K → Rn g ev y as σ K) (hq : rawI (31, a, b, c, v) = some q) (hd : decode (mB μ) pc = .ok q) (hres : resI μ (31, a, b, c, v) = true) (hw : wpI g Sp (31, a, b, c, v) ls st σ K) (hk : ∀ ls st σ, K ls st σ → PW g ev μ (pc + q.2) ls st σ Post) : PW g ev μ pc ls st σ Post := by
  cases hq
  rcases st with _ | ⟨w0, st⟩
  · first | exact False.elim hw
  cases w0 <;> first | exact False.elim hw | skip
  rename_i x
  exact n_i2s hd (hk _ _ _ hw)
theorem sI_32 (hSp : ∀ y as σ K, Sp y as σ K → Rn g ev y as σ K) (hq : rawI (32, a, b, c, v) = some q) (hd : decode (mB μ) pc = .ok q) (hres : resI μ (32, a, b, c, v) = true) (hw : wpI g Sp (32, a, b, c, v) ls st σ K) (hk : ∀ ls st σ, K ls st σ → PW g ev μ (pc + q.2) ls st σ Post) : PW g ev μ pc ls st σ Post := by
  cases hq
  rcases st with _ | ⟨w0, st⟩
  · first | exact False.elim hw
  cases w0 <;> first | exact False.elim hw | skip
  rename_i x
  exact n_i2c hd (hk _ _ _ hw)
theorem sI_33 (hSp : ∀ y as σ K, Sp y as σ K → Rn g ev y as σ K) (hq : rawI (33, a, b, c, v) = some q) (hd : decode (mB μ) pc = .ok q) (hres : resI μ (33, a, b, c, v) = true) (hw : wpI g Sp (33, a, b, c, v) ls st σ K) (hk : ∀ ls st σ, K ls st σ → PW g ev μ (pc + q.2) ls st σ Post) : PW g ev μ pc ls st σ Post := by
  cases hq
  rcases st with _ | ⟨w0, st⟩
  · first | exact False.elim hw
  cases w0 <;> first | exact False.elim hw | skip
  rename_i k
  have hr : (ftab.any (fun e => e.1 == mC μ && e.2.1 == a && e.2.2.1 == b && e.2.2.2.1 == c) && decide (fkT b c < 2)) = true := hres
  simp only [Bool.and_eq_true, decide_eq_true_eq] at hr
  exact n_getf hd (ftab_use hr.1) hw.1 (v := .int (σ.1 k c)) (fvl_0 hr.2) (hk _ _ _ hw.2)
theorem sI_34 (hSp : ∀ y as σ K, Sp y as σ K → Rn g ev y as σ K) (hq : rawI (34, a, b, c, v) = some q) (hd : decode (mB μ) pc = .ok q) (hres : resI μ (34, a, b, c, v) = true) (hw : wpI g Sp (34, a, b, c, v) ls st σ K) (hk : ∀ ls st σ, K ls st σ → PW g ev μ (pc + q.2) ls st σ Post) : PW g ev μ pc ls st σ Post := by
  cases hq
  rcases st with _ | ⟨w0, st⟩
  · first | exact False.elim hw
  cases w0 <;> first | exact False.elim hw | skip
  rename_i k
  have hr : (ftab.any (fun e => e.1 == mC μ && e.2.1 == a && e.2.2.1 == b && e.2.2.2.1 == c) && decide (fkT b c = 2)) = true := hres
  simp only [Bool.and_eq_true, decide_eq_true_eq] at hr
  exact n_getf hd (ftab_use hr.1) hw.1 (v := .long (σ.2 k c)) (fvl_2 hr.2) (hk _ _ _ hw.2)
theorem sI_35 (hSp : ∀ y as σ K, Sp y as σ K → Rn g ev y as σ K) (hq : rawI (35, a, b, c, v) = some q) (hd : decode (mB μ) pc = .ok q) (hres : resI μ (35, a, b, c, v) = true) (hw : wpI g Sp (35, a, b, c, v) ls st σ K) (hk : ∀ ls st σ, K ls st σ → PW g ev μ (pc + q.2) ls st σ Post) : PW g ev μ pc ls st σ Post := by
  cases hq
  rcases st with _ | ⟨w0, st⟩
  · first | exact False.elim hw
  cases w0 <;> first | exact False.elim hw | skip
  rename_i k
  have hr : (ftab.any (fun e => e.1 == mC μ && e.2.1 == a && e.2.2.1 == b && e.2.2.2.1 == c) && decide (fkT b c = 3)) = true := hres
  simp only [Bool.and_eq_true, decide_eq_true_eq] at hr
  exact n_getf hd (ftab_use hr.1) hw.1 (v := .ref (rfs g k c)) (fvl_3 hr.2) (hk _ _ _ hw.2)
theorem sI_36 (hSp : ∀ y as σ K, Sp y as σ K → Rn g ev y as σ K) (hq : rawI (36, a, b, c, v) = some q) (hd : decode (mB μ) pc = .ok q) (hres : resI μ (36, a, b, c, v) = true) (hw : wpI g Sp (36, a, b, c, v) ls st σ K) (hk : ∀ ls st σ, K ls st σ → PW g ev μ (pc + q.2) ls st σ Post) : PW g ev μ pc ls st σ Post := by
  cases hq
  rcases st with _ | ⟨w0, st⟩
  · first | exact False.elim hw
  rcases st with _ | ⟨w1, st⟩
  · first | exact False.elim hw | (cases w0 <;> exact False.elim hw)
  cases w0 <;> first | exact False.elim hw | (cases w1 <;> exact False.elim hw) | skip
  rename_i x
  cases w1 <;> first | exact False.elim hw | skip
  rename_i k
  have hr : (ftab.any (fun e => e.1 == mC μ && e.2.1 == a && e.2.2.1 == b && e.2.2.2.1 == c) && decide (fkT b c = 0)) = true := hres
  simp only [Bool.and_eq_true, decide_eq_true_eq] at hr
  have hf := ftab_use hr.1
  exact n_putf (v := .int x) (τ := si σ k c x) hd hf hw.1 ((fkG b hf.1 c hf.2.1).1 hr.2) rfl rfl (by rw [fvl_0 (by omega)]; show Value.int (upr σ.1 k (upd (σ.1 k) c x) k c) = _; rw [upr_eq]; show Value.int (if c = c then x else _) = _; rw [if_pos rfl]; rfl) (fun i h => fvl_si i h) (fun _ h => upr_ne h) (fun _ _ => rfl) (hk _ _ _ hw.2)
theorem sI_37 (hSp : ∀ y as σ K, Sp y as σ K → Rn g ev y as σ K) (hq : rawI (37, a, b, c, v) = some q) (hd : decode (mB μ) pc = .ok q) (hres : resI μ (37, a, b, c, v) = true) (hw : wpI g Sp (37, a, b, c, v) ls st σ K) (hk : ∀ ls st σ, K ls st σ → PW g ev μ (pc + q.2) ls st σ Post) : PW g ev μ pc ls st σ Post := by
  cases hq
  rcases st with _ | ⟨w0, st⟩
  · first | exact False.elim hw
  rcases st with _ | ⟨w1, st⟩
  · first | exact False.elim hw | (cases w0 <;> exact False.elim hw)
  cases w0 <;> first | exact False.elim hw | (cases w1 <;> exact False.elim hw) | skip
  rename_i x
  cases w1 <;> first | exact False.elim hw | skip
  rename_i k
  have hr : (ftab.any (fun e => e.1 == mC μ && e.2.1 == a && e.2.2.1 == b && e.2.2.2.1 == c) && decide (fkT b c = 1)) = true := hres
  simp only [Bool.and_eq_true, decide_eq_true_eq] at hr
  have hf := ftab_use hr.1
  obtain ⟨h1, h2, h3⟩ := hw
  exact n_putf (v := .int x) (τ := si σ k c x) hd hf h1 ((fkG b hf.1 c hf.2.1).2.1 hr.2) (by rcases h2 with rfl | rfl <;> rfl) (by rcases h2 with rfl | rfl <;> rfl) (by rw [fvl_0 (by omega)]; show Value.int (upr σ.1 k (upd (σ.1 k) c x) k c) = _; rw [upr_eq]; show Value.int (if c = c then x else _) = _; rw [if_pos rfl]; rfl) (fun i h => fvl_si i h) (fun _ h => upr_ne h) (fun _ _ => rfl) (hk _ _ _ h3)
theorem sI_38 (hSp : ∀ y as σ K, Sp y as σ K → Rn g ev y as σ K) (hq : rawI (38, a, b, c, v) = some q) (hd : decode (mB μ) pc = .ok q) (hres : resI μ (38, a, b, c, v) = true) (hw : wpI g Sp (38, a, b, c, v) ls st σ K) (hk : ∀ ls st σ, K ls st σ → PW g ev μ (pc + q.2) ls st σ Post) : PW g ev μ pc ls st σ Post := by
  cases hq
  rcases st with _ | ⟨w0, st⟩
  · first | exact False.elim hw
  rcases st with _ | ⟨w1, st⟩
  · first | exact False.elim hw | (cases w0 <;> exact False.elim hw)
  cases w0 <;> first | exact False.elim hw | (cases w1 <;> exact False.elim hw) | skip
  rename_i x
  cases w1 <;> first | exact False.elim hw | skip
  rename_i k
  have hr : (ftab.any (fun e => e.1 == mC μ && e.2.1 == a && e.2.2.1 == b && e.2.2.2.1 == c) && decide (fkT b c = 2)) = true := hres
  simp only [Bool.and_eq_true, decide_eq_true_eq] at hr
  have hf := ftab_use hr.1
  exact n_putf (v := .long x) (τ := sl σ k c x) hd hf hw.1 ((fkG b hf.1 c hf.2.1).2.2.1 hr.2) rfl rfl (by rw [fvl_2 hr.2]; show Value.long (upr σ.2 k (updl (σ.2 k) c x) k c) = _; rw [upr_eq]; show Value.long (if c = c then x else _) = _; rw [if_pos rfl]; rfl) (fun i h => fvl_sl i h) (fun _ _ => rfl) (fun _ h => upr_ne h) (hk _ _ _ hw.2)
theorem sI_39 (hSp : ∀ y as σ K, Sp y as σ K → Rn g ev y as σ K) (hq : rawI (39, a, b, c, v) = some q) (hd : decode (mB μ) pc = .ok q) (hres : resI μ (39, a, b, c, v) = true) (hw : wpI g Sp (39, a, b, c, v) ls st σ K) (hk : ∀ ls st σ, K ls st σ → PW g ev μ (pc + q.2) ls st σ Post) : PW g ev μ pc ls st σ Post := by
  cases hq
  rcases st with _ | ⟨w0, st⟩
  · first | exact False.elim hw
  rcases st with _ | ⟨w1, st⟩
  · first | exact False.elim hw | (cases w0 <;> exact False.elim hw)
  cases w0 <;> first | exact False.elim hw | (cases w1 <;> exact False.elim hw) | skip
  rename_i i
  cases w1 <;> first | exact False.elim hw | skip
  rename_i k
  exact n_iald hd hw.1 hw.2.1 (hk _ _ _ hw.2.2)
theorem sI_40 (hSp : ∀ y as σ K, Sp y as σ K → Rn g ev y as σ K) (hq : rawI (40, a, b, c, v) = some q) (hd : decode (mB μ) pc = .ok q) (hres : resI μ (40, a, b, c, v) = true) (hw : wpI g Sp (40, a, b, c, v) ls st σ K) (hk : ∀ ls st σ, K ls st σ → PW g ev μ (pc + q.2) ls st σ Post) : PW g ev μ pc ls st σ Post := by
  cases hq
  rcases st with _ | ⟨w0, st⟩
  · first | exact False.elim hw
  rcases st with _ | ⟨w1, st⟩
  · first | exact False.elim hw | (cases w0 <;> exact False.elim hw)
  rcases st with _ | ⟨w2, st⟩
  · first | exact False.elim hw | (cases w0 <;> cases w1 <;> exact False.elim hw)
  cases w0 <;> first | exact False.elim hw | (cases w1 <;> cases w2 <;> exact False.elim hw) | skip
  rename_i x
  cases w1 <;> first | exact False.elim hw | (cases w2 <;> exact False.elim hw) | skip
  rename_i i
  cases w2 <;> first | exact False.elim hw | skip
  rename_i k
  exact n_iast hd hw.1 hw.2.1 (hk _ _ _ hw.2.2)
theorem sI_41 (hSp : ∀ y as σ K, Sp y as σ K → Rn g ev y as σ K) (hq : rawI (41, a, b, c, v) = some q) (hd : decode (mB μ) pc = .ok q) (hres : resI μ (41, a, b, c, v) = true) (hw : wpI g Sp (41, a, b, c, v) ls st σ K) (hk : ∀ ls st σ, K ls st σ → PW g ev μ (pc + q.2) ls st σ Post) : PW g ev μ pc ls st σ Post := by
  cases hq
  rcases st with _ | ⟨w0, st⟩
  · first | exact False.elim hw
  rcases st with _ | ⟨w1, st⟩
  · first | exact False.elim hw | (cases w0 <;> exact False.elim hw)
  cases w0 <;> first | exact False.elim hw | (cases w1 <;> exact False.elim hw) | skip
  rename_i i
  cases w1 <;> first | exact False.elim hw | skip
  rename_i k
  exact n_cald hd hw.1 hw.2.1 (hk _ _ _ hw.2.2)
theorem sI_42 (hSp : ∀ y as σ K, Sp y as σ K → Rn g ev y as σ K) (hq : rawI (42, a, b, c, v) = some q) (hd : decode (mB μ) pc = .ok q) (hres : resI μ (42, a, b, c, v) = true) (hw : wpI g Sp (42, a, b, c, v) ls st σ K) (hk : ∀ ls st σ, K ls st σ → PW g ev μ (pc + q.2) ls st σ Post) : PW g ev μ pc ls st σ Post := by
  cases hq
  rcases st with _ | ⟨w0, st⟩
  · first | exact False.elim hw
  rcases st with _ | ⟨w1, st⟩
  · first | exact False.elim hw | (cases w0 <;> exact False.elim hw)
  cases w0 <;> first | exact False.elim hw | (cases w1 <;> exact False.elim hw) | skip
  rename_i i
  cases w1 <;> first | exact False.elim hw | skip
  rename_i k
  exact n_aald hd hw.1 hw.2.1 (hk _ _ _ hw.2.2)
theorem sI_43 (hSp : ∀ y as σ K, Sp y as σ K → Rn g ev y as σ K) (hq : rawI (43, a, b, c, v) = some q) (hd : decode (mB μ) pc = .ok q) (hres : resI μ (43, a, b, c, v) = true) (hw : wpI g Sp (43, a, b, c, v) ls st σ K) (hk : ∀ ls st σ, K ls st σ → PW g ev μ (pc + q.2) ls st σ Post) : PW g ev μ pc ls st σ Post := by
  cases hq
  rcases st with _ | ⟨w0, st⟩
  · first | exact False.elim hw
  cases w0 <;> first | exact False.elim hw | skip
  rename_i k
  exact n_alen hd hw.1 (hk _ _ _ hw.2)
theorem sI_44 (hSp : ∀ y as σ K, Sp y as σ K → Rn g ev y as σ K) (hq : rawI (44, a, b, c, v) = some q) (hd : decode (mB μ) pc = .ok q) (hres : resI μ (44, a, b, c, v) = true) (hw : wpI g Sp (44, a, b, c, v) ls st σ K) (hk : ∀ ls st σ, K ls st σ → PW g ev μ (pc + q.2) ls st σ Post) : PW g ev μ pc ls st σ Post := by
  cases hq
  rcases st with _ | ⟨w0, st⟩
  · first | exact False.elim hw
  rcases st with _ | ⟨w1, st⟩
  · first | exact False.elim hw | (cases w0 <;> exact False.elim hw)
  cases w0 <;> first | exact False.elim hw | (cases w1 <;> exact False.elim hw) | skip
  rename_i i
  cases w1 <;> first | exact False.elim hw | skip
  rename_i k
  exact n_ialdS hd hw.1 hw.2.1 (hk _ _ _ hw.2.2)
theorem sI_45 (hSp : ∀ y as σ K, Sp y as σ K → Rn g ev y as σ K) (hq : rawI (45, a, b, c, v) = some q) (hd : decode (mB μ) pc = .ok q) (hres : resI μ (45, a, b, c, v) = true) (hw : wpI g Sp (45, a, b, c, v) ls st σ K) (hk : ∀ ls st σ, K ls st σ → PW g ev μ (pc + q.2) ls st σ Post) : PW g ev μ pc ls st σ Post := by
  cases hq
  exact n_gsA hd hw.1 (satab_use hres) (hk _ _ _ hw.2)
theorem sI_46 (hSp : ∀ y as σ K, Sp y as σ K → Rn g ev y as σ K) (hq : rawI (46, a, b, c, v) = some q) (hd : decode (mB μ) pc = .ok q) (hres : resI μ (46, a, b, c, v) = true) (hw : wpI g Sp (46, a, b, c, v) ls st σ K) (hk : ∀ ls st σ, K ls st σ → PW g ev μ (pc + q.2) ls st σ Post) : PW g ev μ pc ls st σ Post := by
  cases hq
  exact n_gsI hd hw.1 (sttab_use hres) (hk _ _ _ hw.2)
theorem sI_47 (hSp : ∀ y as σ K, Sp y as σ K → Rn g ev y as σ K) (hq : rawI (47, a, b, c, v) = some q) (hd : decode (mB μ) pc = .ok q) (hres : resI μ (47, a, b, c, v) = true) (hw : wpI g Sp (47, a, b, c, v) ls st σ K) (hk : ∀ ls st σ, K ls st σ → PW g ev μ (pc + q.2) ls st σ Post) : PW g ev μ pc ls st σ Post := by
  cases hq
  exact n_gsQ hd hw.1 (sttab_use hres) (hk _ _ _ hw.2.1) (hk _ _ _ hw.2.2)
theorem sI_48 (hSp : ∀ y as σ K, Sp y as σ K → Rn g ev y as σ K) (hq : rawI (48, a, b, c, v) = some q) (hd : decode (mB μ) pc = .ok q) (hres : resI μ (48, a, b, c, v) = true) (hw : wpI g Sp (48, a, b, c, v) ls st σ K) (hk : ∀ ls st σ, K ls st σ → PW g ev μ (pc + q.2) ls st σ Post) : PW g ev μ pc ls st σ Post := by
  cases hq
  have hr : (mC μ == 3 && decide (300 ≤ b) && ((strL[b - 300]?).map (fun q => q.1)) == some a) = true := hres
  simp only [Bool.and_eq_true, decide_eq_true_eq, beq_iff_eq] at hr
  refine n_ldS hd hw.1 hr.1.1 hr.1.2 ?_ (hk _ _ _ hw.2)
  obtain ⟨q, h1, h2⟩ := Option.map_eq_some_iff.mp hr.2
  exact ⟨q.2, by rw [h1, ← h2]⟩
theorem sI_49 (hSp : ∀ y as σ K, Sp y as σ K → Rn g ev y as σ K) (hq : rawI (49, a, b, c, v) = some q) (hd : decode (mB μ) pc = .ok q) (hres : resI μ (49, a, b, c, v) = true) (hw : wpI g Sp (49, a, b, c, v) ls st σ K) (hk : ∀ ls st σ, K ls st σ → PW g ev μ (pc + q.2) ls st σ Post) : PW g ev μ pc ls st σ Post := by
  cases hq
  rcases st with _ | ⟨w0, st⟩
  · first | exact False.elim hw
  cases w0 <;> first | exact False.elim hw | skip
  rename_i k
  exact n_gfS hd (sttab_use hres) hw.1 (hk _ _ _ hw.2)
theorem sI_50 (hSp : ∀ y as σ K, Sp y as σ K → Rn g ev y as σ K) (hq : rawI (50, a, b, c, v) = some q) (hd : decode (mB μ) pc = .ok q) (hres : resI μ (50, a, b, c, v) = true) (hw : wpI g Sp (50, a, b, c, v) ls st σ K) (hk : ∀ ls st σ, K ls st σ → PW g ev μ (pc + q.2) ls st σ Post) : PW g ev μ pc ls st σ Post := by
  cases hq
  rcases st with _ | ⟨w0, st⟩
  · first | exact False.elim hw
  cases w0 <;> first | exact False.elim hw | skip
  rename_i k
  exact n_gfC hd (sttab_use hres) hw.1 (hk _ _ _ hw.2)
theorem sI_51 (hSp : ∀ y as σ K, Sp y as σ K → Rn g ev y as σ K) (hq : rawI (51, a, b, c, v) = some q) (hd : decode (mB μ) pc = .ok q) (hres : resI μ (51, a, b, c, v) = true) (hw : wpI g Sp (51, a, b, c, v) ls st σ K) (hk : ∀ ls st σ, K ls st σ → PW g ev μ (pc + q.2) ls st σ Post) : PW g ev μ pc ls st σ Post := by
  cases hq
  rcases st with _ | ⟨w0, st⟩
  · first | exact False.elim hw
  rcases st with _ | ⟨w1, st⟩
  · first | exact False.elim hw | (cases w0 <;> exact False.elim hw)
  cases w0 <;> first | exact False.elim hw | (cases w1 <;> exact False.elim hw) | skip
  rename_i i
  cases w1 <;> first | exact False.elim hw | skip
  rename_i k
  exact n_baldS hd hw.1 hw.2.1 (hk _ _ _ hw.2.2)
theorem sI_52 (hSp : ∀ y as σ K, Sp y as σ K → Rn g ev y as σ K) (hq : rawI (52, a, b, c, v) = some q) (hd : decode (mB μ) pc = .ok q) (hres : resI μ (52, a, b, c, v) = true) (hw : wpI g Sp (52, a, b, c, v) ls st σ K) (hk : ∀ ls st σ, K ls st σ → PW g ev μ (pc + q.2) ls st σ Post) : PW g ev μ pc ls st σ Post := by
  cases hq
  rcases st with _ | ⟨w0, st⟩
  · first | exact False.elim hw
  cases w0 <;> first | exact False.elim hw | skip
  rename_i k
  exact n_alenS hd hw.1 (hk _ _ _ hw.2)
theorem sI_53 (hSp : ∀ y as σ K, Sp y as σ K → Rn g ev y as σ K) (hq : rawI (53, a, b, c, v) = some q) (hd : decode (mB μ) pc = .ok q) (hres : resI μ (53, a, b, c, v) = true) (hw : wpI g Sp (53, a, b, c, v) ls st σ K) (hk : ∀ ls st σ, K ls st σ → PW g ev μ (pc + q.2) ls st σ Post) : PW g ev μ pc ls st σ Post := by
  have hr : (a == 0 || lctab.any (fun e => e.1 == mC μ && e.2.1 == a && e.2.2.1 == b)) = true := hres
  have hq' : (if a = 0 then (if h : b < 2 then some (Instr.lconst ⟨b, h⟩, 1) else none) else some (Instr.ldc2_w a, 3)) = some q := hq
  by_cases h0 : a = 0
  · rw [if_pos h0] at hq'
    by_cases h2 : b < 2
    · rw [dif_pos h2] at hq'
      cases hq'
      exact n_lconst hd rfl (hk _ _ _ hw)
    · rw [dif_neg h2] at hq'
      cases hq'
  · rw [if_neg h0] at hq'
    cases hq'
    simp only [Bool.or_eq_true, beq_iff_eq] at hr
    rcases hr with h | h
    · exact absurd h h0
    · exact n_ldc2 hd (lctab_use h) (hk _ _ _ hw)
theorem sI_54 (hSp : ∀ y as σ K, Sp y as σ K → Rn g ev y as σ K) (hq : rawI (54, a, b, c, v) = some q) (hd : decode (mB μ) pc = .ok q) (hres : resI μ (54, a, b, c, v) = true) (hw : wpI g Sp (54, a, b, c, v) ls st σ K) (hk : ∀ ls st σ, K ls st σ → PW g ev μ (pc + q.2) ls st σ Post) : PW g ev μ pc ls st σ Post := by
  cases hq
  have hr : (ktab.any (fun e => e.1 == mC μ && e.2.1 == a && e.2.2.1 == c) && !(mS c) && mA c == b && decide (mE c < mE μ)) = true := hres
  simp only [Bool.and_eq_true, decide_eq_true_eq, beq_iff_eq, Bool.not_eq_true'] at hr
  obtain ⟨⟨⟨h1, h2⟩, h3⟩, h4⟩ := hr
  obtain ⟨h5, h6, h7⟩ := le4_use hw
  exact n_callV hd (ktab_use h1) h2 h3 h4 h5 h6 (hSp _ _ _ _ h7) (fun r σ h => hk _ _ _ h)
theorem sI_55 (hSp : ∀ y as σ K, Sp y as σ K → Rn g ev y as σ K) (hq : rawI (55, a, b, c, v) = some q) (hd : decode (mB μ) pc = .ok q) (hres : resI μ (55, a, b, c, v) = true) (hw : wpI g Sp (55, a, b, c, v) ls st σ K) (hk : ∀ ls st σ, K ls st σ → PW g ev μ (pc + q.2) ls st σ Post) : PW g ev μ pc ls st σ Post := by
  cases hq
  have hr : (ktab.any (fun e => e.1 == mC μ && e.2.1 == a && e.2.2.1 == c) && mS c && mA c == b && decide (mE c < mE μ)) = true := hres
  simp only [Bool.and_eq_true, decide_eq_true_eq, beq_iff_eq] at hr
  obtain ⟨⟨⟨h1, h2⟩, h3⟩, h4⟩ := hr
  obtain ⟨h5, h6, h7⟩ := le4_use hw
  exact n_callS hd (ktab_use h1) h2 h3 h4 h5 h6 (hSp _ _ _ _ h7) (fun r σ h => hk _ _ _ h)
theorem sI_56 (hSp : ∀ y as σ K, Sp y as σ K → Rn g ev y as σ K) (hq : rawI (56, a, b, c, v) = some q) (hd : decode (mB μ) pc = .ok q) (hres : resI μ (56, a, b, c, v) = true) (hw : wpI g Sp (56, a, b, c, v) ls st σ K) (hk : ∀ ls st σ, K ls st σ → PW g ev μ (pc + q.2) ls st σ Post) : PW g ev μ pc ls st σ Post := by
  cases hq
  rcases st with _ | ⟨w0, st⟩
  · first | exact False.elim hw
  rcases st with _ | ⟨w1, st⟩
  · first | exact False.elim hw | (cases w0 <;> exact False.elim hw)
  rcases st with _ | ⟨w2, st⟩
  · first | exact False.elim hw | (cases w0 <;> cases w1 <;> exact False.elim hw)
  rcases st with _ | ⟨w3, st⟩
  · first | exact False.elim hw | (cases w0 <;> cases w1 <;> cases w2 <;> exact False.elim hw)
  rcases st with _ | ⟨w4, st⟩
  · first | exact False.elim hw | (cases w0 <;> cases w1 <;> cases w2 <;> cases w3 <;> exact False.elim hw)
  cases w0 <;> first | exact False.elim hw | (cases w1 <;> cases w2 <;> cases w3 <;> cases w4 <;> exact False.elim hw) | skip
  rename_i n
  cases w1 <;> first | exact False.elim hw | (cases w2 <;> cases w3 <;> cases w4 <;> exact False.elim hw) | skip
  rename_i dp
  cases w2 <;> first | exact False.elim hw | (cases w3 <;> cases w4 <;> exact False.elim hw) | skip
  rename_i k
  cases w3 <;> first | exact False.elim hw | (cases w4 <;> exact False.elim hw) | skip
  rename_i sp
  cases w4 <;> first | exact False.elim hw | skip
  rename_i k0
  have hr : (ntab.any (fun e => e.1 == mC μ && e.2.1 == a && e.2.2.1 == 3) && decide (0 < mE μ)) = true := hres
  simp only [Bool.and_eq_true, decide_eq_true_eq] at hr
  obtain ⟨h1, h2, h3, h4, h5⟩ := hw
  obtain ⟨h6, h7⟩ := le4_use h5
  exact n_acopy hd (ntab_use hr.1) hr.2 h6 h1 h2 h3 h4 (hk _ _ _ h7)
theorem sI_57 (hSp : ∀ y as σ K, Sp y as σ K → Rn g ev y as σ K) (hq : rawI (57, a, b, c, v) = some q) (hd : decode (mB μ) pc = .ok q) (hres : resI μ (57, a, b, c, v) = true) (hw : wpI g Sp (57, a, b, c, v) ls st σ K) (hk : ∀ ls st σ, K ls st σ → PW g ev μ (pc + q.2) ls st σ Post) : PW g ev μ pc ls st σ Post := by
  cases hq
  rcases st with _ | ⟨w0, st⟩
  · first | exact False.elim hw
  rcases st with _ | ⟨w1, st⟩
  · first | exact False.elim hw | (cases w0 <;> exact False.elim hw)
  cases w0 <;> first | exact False.elim hw | (cases w1 <;> exact False.elim hw) | skip
  rename_i y
  cases w1 <;> first | exact False.elim hw | skip
  rename_i x
  have hr : (ntab.any (fun e => e.1 == mC μ && e.2.1 == a && e.2.2.1 == 0) && decide (0 < mE μ)) = true := hres
  simp only [Bool.and_eq_true, decide_eq_true_eq] at hr
  obtain ⟨h6, h7⟩ := le4_use hw
  exact n_mmin hd (ntab_use hr.1) hr.2 h6 (hk _ _ _ h7)
theorem sI_58 (hSp : ∀ y as σ K, Sp y as σ K → Rn g ev y as σ K) (hq : rawI (58, a, b, c, v) = some q) (hd : decode (mB μ) pc = .ok q) (hres : resI μ (58, a, b, c, v) = true) (hw : wpI g Sp (58, a, b, c, v) ls st σ K) (hk : ∀ ls st σ, K ls st σ → PW g ev μ (pc + q.2) ls st σ Post) : PW g ev μ pc ls st σ Post := by
  cases hq
  rcases st with _ | ⟨w0, st⟩
  · first | exact False.elim hw
  rcases st with _ | ⟨w1, st⟩
  · first | exact False.elim hw | (cases w0 <;> exact False.elim hw)
  cases w0 <;> first | exact False.elim hw | (cases w1 <;> exact False.elim hw) | skip
  rename_i y
  cases w1 <;> first | exact False.elim hw | skip
  rename_i x
  have hr : (ntab.any (fun e => e.1 == mC μ && e.2.1 == a && e.2.2.1 == 1) && decide (0 < mE μ)) = true := hres
  simp only [Bool.and_eq_true, decide_eq_true_eq] at hr
  obtain ⟨h6, h7⟩ := le4_use hw
  exact n_mmax hd (ntab_use hr.1) hr.2 h6 (hk _ _ _ h7)
theorem sI_59 (hSp : ∀ y as σ K, Sp y as σ K → Rn g ev y as σ K) (hq : rawI (59, a, b, c, v) = some q) (hd : decode (mB μ) pc = .ok q) (hres : resI μ (59, a, b, c, v) = true) (hw : wpI g Sp (59, a, b, c, v) ls st σ K) (hk : ∀ ls st σ, K ls st σ → PW g ev μ (pc + q.2) ls st σ Post) : PW g ev μ pc ls st σ Post := by
  cases hq
  rcases st with _ | ⟨w0, st⟩
  · first | exact False.elim hw
  rcases st with _ | ⟨w1, st⟩
  · first | exact False.elim hw | (cases w0 <;> exact False.elim hw)
  cases w0 <;> first | exact False.elim hw | (cases w1 <;> exact False.elim hw) | skip
  rename_i y
  cases w1 <;> first | exact False.elim hw | skip
  rename_i x
  have hr : (ntab.any (fun e => e.1 == mC μ && e.2.1 == a && e.2.2.1 == 2) && decide (0 < mE μ)) = true := hres
  simp only [Bool.and_eq_true, decide_eq_true_eq] at hr
  obtain ⟨h6, h7⟩ := le4_use hw
  exact n_mmaxL hd (ntab_use hr.1) hr.2 h6 (hk _ _ _ h7)
theorem sI_all (hSp : ∀ y as σ K, Sp y as σ K → Rn g ev y as σ K) : ∀ (t : Nat), rawI (t, a, b, c, v) = some q → decode (mB μ) pc = .ok q → resI μ (t, a, b, c, v) = true → wpI g Sp (t, a, b, c, v) ls st σ K → (∀ ls st σ, K ls st σ → PW g ev μ (pc + q.2) ls st σ Post) → PW g ev μ pc ls st σ Post
  | 0, hq, hd, hres, hw, hk => sI_0 hSp hq hd hres hw hk
  | 1, hq, hd, hres, hw, hk => sI_1 hSp hq hd hres hw hk
  | 2, hq, hd, hres, hw, hk => sI_2 hSp hq hd hres hw hk
  | 3, hq, hd, hres, hw, hk => sI_3 hSp hq hd hres hw hk
  | 4, hq, hd, hres, hw, hk => sI_4 hSp hq hd hres hw hk
  | 5, hq, hd, hres, hw, hk => sI_5 hSp hq hd hres hw hk
  | 6, hq, hd, hres, hw, hk => sI_6 hSp hq hd hres hw hk
  | 7, hq, hd, hres, hw, hk => sI_7 hSp hq hd hres hw hk
  | 8, hq, hd, hres, hw, hk => sI_8 hSp hq hd hres hw hk
  | 9, hq, hd, hres, hw, hk => sI_9 hSp hq hd hres hw hk
  | 10, hq, hd, hres, hw, hk => sI_10 hSp hq hd hres hw hk
  | 11, hq, hd, hres, hw, hk => sI_11 hSp hq hd hres hw hk
  | 12, hq, hd, hres, hw, hk => sI_12 hSp hq hd hres hw hk
  | 13, hq, hd, hres, hw, hk => sI_13 hSp hq hd hres hw hk
  | 14, hq, hd, hres, hw, hk => sI_14 hSp hq hd hres hw hk
  | 15, hq, hd, hres, hw, hk => sI_15 hSp hq hd hres hw hk
  | 16, hq, hd, hres, hw, hk => sI_16 hSp hq hd hres hw hk
  | 17, hq, hd, hres, hw, hk => sI_17 hSp hq hd hres hw hk
  | 18, hq, hd, hres, hw, hk => sI_18 hSp hq hd hres hw hk
  | 19, hq, hd, hres, hw, hk => sI_19 hSp hq hd hres hw hk
  | 20, hq, hd, hres, hw, hk => sI_20 hSp hq hd hres hw hk
  | 21, hq, hd, hres, hw, hk => sI_21 hSp hq hd hres hw hk
  | 22, hq, hd, hres, hw, hk => sI_22 hSp hq hd hres hw hk
  | 23, hq, hd, hres, hw, hk => sI_23 hSp hq hd hres hw hk
  | 24, hq, hd, hres, hw, hk => sI_24 hSp hq hd hres hw hk
  | 25, hq, hd, hres, hw, hk => sI_25 hSp hq hd hres hw hk
  | 26, hq, hd, hres, hw, hk => sI_26 hSp hq hd hres hw hk
  | 27, hq, hd, hres, hw, hk => sI_27 hSp hq hd hres hw hk
  | 28, hq, hd, hres, hw, hk => sI_28 hSp hq hd hres hw hk
  | 29, hq, hd, hres, hw, hk => sI_29 hSp hq hd hres hw hk
  | 30, hq, hd, hres, hw, hk => sI_30 hSp hq hd hres hw hk
  | 31, hq, hd, hres, hw, hk => sI_31 hSp hq hd hres hw hk
  | 32, hq, hd, hres, hw, hk => sI_32 hSp hq hd hres hw hk
  | 33, hq, hd, hres, hw, hk => sI_33 hSp hq hd hres hw hk
  | 34, hq, hd, hres, hw, hk => sI_34 hSp hq hd hres hw hk
  | 35, hq, hd, hres, hw, hk => sI_35 hSp hq hd hres hw hk
  | 36, hq, hd, hres, hw, hk => sI_36 hSp hq hd hres hw hk
  | 37, hq, hd, hres, hw, hk => sI_37 hSp hq hd hres hw hk
  | 38, hq, hd, hres, hw, hk => sI_38 hSp hq hd hres hw hk
  | 39, hq, hd, hres, hw, hk => sI_39 hSp hq hd hres hw hk
  | 40, hq, hd, hres, hw, hk => sI_40 hSp hq hd hres hw hk
  | 41, hq, hd, hres, hw, hk => sI_41 hSp hq hd hres hw hk
  | 42, hq, hd, hres, hw, hk => sI_42 hSp hq hd hres hw hk
  | 43, hq, hd, hres, hw, hk => sI_43 hSp hq hd hres hw hk
  | 44, hq, hd, hres, hw, hk => sI_44 hSp hq hd hres hw hk
  | 45, hq, hd, hres, hw, hk => sI_45 hSp hq hd hres hw hk
  | 46, hq, hd, hres, hw, hk => sI_46 hSp hq hd hres hw hk
  | 47, hq, hd, hres, hw, hk => sI_47 hSp hq hd hres hw hk
  | 48, hq, hd, hres, hw, hk => sI_48 hSp hq hd hres hw hk
  | 49, hq, hd, hres, hw, hk => sI_49 hSp hq hd hres hw hk
  | 50, hq, hd, hres, hw, hk => sI_50 hSp hq hd hres hw hk
  | 51, hq, hd, hres, hw, hk => sI_51 hSp hq hd hres hw hk
  | 52, hq, hd, hres, hw, hk => sI_52 hSp hq hd hres hw hk
  | 53, hq, hd, hres, hw, hk => sI_53 hSp hq hd hres hw hk
  | 54, hq, hd, hres, hw, hk => sI_54 hSp hq hd hres hw hk
  | 55, hq, hd, hres, hw, hk => sI_55 hSp hq hd hres hw hk
  | 56, hq, hd, hres, hw, hk => sI_56 hSp hq hd hres hw hk
  | 57, hq, hd, hres, hw, hk => sI_57 hSp hq hd hres hw hk
  | 58, hq, hd, hres, hw, hk => sI_58 hSp hq hd hres hw hk
  | 59, hq, hd, hres, hw, hk => sI_59 hSp hq hd hres hw hk
  | _ + 60, _, _, _, hw, _ => False.elim hw
theorem sI (hSp : ∀ y as σ K, Sp y as σ K → Rn g ev y as σ K) {i : RI} {pc' : Nat} (hc : chkI μ pc i = some pc') (hw : wpI g Sp i ls st σ K) (hk : ∀ ls st σ, K ls st σ → PW g ev μ pc' ls st σ Post) : PW g ev μ pc ls st σ Post := by
  obtain ⟨q, hq, hd, hres, rfl⟩ := chk_out hc
  obtain ⟨t, a, b, c, v⟩ := i
  exact sI_all hSp t hq hd hres hw hk
theorem sL (hSp : ∀ y as σ K, Sp y as σ K → Rn g ev y as σ K) : ∀ (L : List RI) (pc : Nat) (ls st : List Value) (σ : St2) (pc' : Nat), chkL μ pc L = some pc' → wpL g Sp L ls st σ K → (∀ ls st σ, K ls st σ → PW g ev μ pc' ls st σ Post) → PW g ev μ pc ls st σ Post := by
  intro L
  induction L with
  | nil => intro pc ls st σ pc' hc hw hk; cases hc; exact hk _ _ _ hw
  | cons i L ih =>
    intro pc ls st σ pc' hc hw hk
    unfold chkL at hc
    split at hc
    next q hq => exact sI hSp hq hw (fun ls st σ h => ih q ls st σ pc' hc h hk)
    next => cases hc
theorem sT_sw {x : Int32} {d : Nat} : ∀ (l : List (Int32 × Nat)), swP (fun pc ls st σ => PW g ev μ pc ls st σ Post) x d ls st σ l → (∃ q ∈ l, x = q.1 ∧ PW g ev μ q.2 ls st σ Post) ∨ ((∀ q ∈ l, ¬ x = q.1) ∧ PW g ev μ d ls st σ Post)
  | [], h => Or.inr ⟨fun _ h => (by cases h), h⟩
  | q :: l, h => by
    by_cases e : x = q.1
    · exact Or.inl ⟨q, List.mem_cons_self, e, h.1 e⟩
    · rcases sT_sw l (h.2 e) with ⟨r, h1, h2⟩ | ⟨h1, h2⟩
      · exact Or.inl ⟨r, List.mem_cons_of_mem _ h1, h2⟩
      · exact Or.inr ⟨fun r hr => by rcases List.mem_cons.mp hr with rfl | hr; exact e; exact h1 r hr, h2⟩
end NB
