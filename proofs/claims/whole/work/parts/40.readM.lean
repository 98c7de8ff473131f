/-! the reference reads tokens -/
theorem runU_end {P : Int32 → Bool} {T : Nat → Int32} {τ : Nat} : ∀ f p, τ ≤ p + f → ¬ (runU P T τ f p < τ ∧ P (T (runU P T τ f p)) = true)
  | 0, p, h => fun z => by have := z.1; unfold runU at this; omega
  | f + 1, p, h => by
    unfold runU
    by_cases c : p < τ ∧ P (T p) = true
    · rw [if_pos c]; exact runU_end f (p + 1) (by omega)
    · rw [if_neg c]; exact c
theorem run_end {P : Int32 → Bool} {T : Nat → Int32} {τ p : Nat} : ¬ (run P T τ p < τ ∧ P (T (run P T τ p)) = true) := runU_end _ _ (by omega)
/-- a cell's token, in the reference's own fields -/
def tkS (σ : St2) (a b c : Int32) (v : Int64) : St2 := sl (sr σ 0 (upd (upd (upd (σ.1 0) 12 a) 13 b) 14 c)) 0 15 v
theorem ts_self {σ : St2} : tkS σ (σ.1 0 12) (σ.1 0 13) (σ.1 0 14) (σ.2 0 15) = σ := by
  unfold tkS
  rw [fa_upd_same (f := σ.1 0) rfl, fa_upd_same (f := σ.1 0) rfl, fa_upd_same (f := σ.1 0) rfl, sr_self]
  unfold sl
  have e : upr σ.2 0 (updl (σ.2 0) 15 (σ.2 0 15)) = σ.2 := by
    funext k j
    unfold upr updl
    by_cases h : k = 0
    · subst h
      rw [if_pos rfl]
      by_cases h2 : j = 15
      · subst h2; rw [if_pos rfl]
      · rw [if_neg h2]
    · rw [if_neg h]
  rw [e]
section TS
variable {σ : St2} {a b c x : Int32} {v w : Int64} {r : Nat → Int32}
theorem ts_f {j : Nat} : (tkS σ a b c v).1 0 j = upd (upd (upd (σ.1 0) 12 a) 13 b) 14 c j := by
  show (upr σ.1 0 (upd (upd (upd (σ.1 0) 12 a) 13 b) 14 c)) 0 j = _
  rw [upr_eq]
theorem ts12 : (tkS σ a b c v).1 0 12 = a := by rw [ts_f, updN (by decide), updN (by decide), updS]
theorem ts13 : (tkS σ a b c v).1 0 13 = b := by rw [ts_f, updN (by decide), updS]
theorem ts14 : (tkS σ a b c v).1 0 14 = c := by rw [ts_f, updS]
theorem ts11 : (tkS σ a b c v).1 0 11 = σ.1 0 11 := by rw [ts_f, updN (by decide), updN (by decide), updN (by decide)]
theorem ts3 : (tkS σ a b c v).1 0 3 = σ.1 0 3 := by rw [ts_f, updN (by decide), updN (by decide), updN (by decide)]
theorem ts15 : (tkS σ a b c v).2 0 15 = v := by
  show upr σ.2 0 (updl (σ.2 0) 15 v) 0 15 = v
  rw [upr_eq]
  exact if_pos rfl
theorem ts_k {k : Nat} (h : k ≠ 0) : (tkS σ a b c v).1 k = σ.1 k := upr_ne h
theorem ts_1 : (tkS σ a b c v).1 1 = σ.1 1 := ts_k (by decide)
theorem ts_3 : (tkS σ a b c v).1 3 = σ.1 3 := ts_k (by decide)
theorem ts_4 : (tkS σ a b c v).1 4 = σ.1 4 := ts_k (by decide)
theorem ts_8 : (tkS σ a b c v).1 8 = σ.1 8 := ts_k (by decide)
theorem ts_9 : (tkS σ a b c v).1 9 = σ.1 9 := ts_k (by decide)
theorem ts_10 : (tkS σ a b c v).1 10 = σ.1 10 := ts_k (by decide)
theorem ts_11 : (tkS σ a b c v).1 11 = σ.1 11 := ts_k (by decide)
theorem ts_12 : (tkS σ a b c v).1 12 = σ.1 12 := ts_k (by decide)
theorem upr_upr {α : Type} {f : Nat → Nat → α} {k : Nat} {r r' : Nat → α} : upr (upr f k r) k r' = upr f k r' := by
  funext i
  unfold upr
  by_cases h : i = k
  · rw [if_pos h, if_pos h]
  · rw [if_neg h, if_neg h, if_neg h]
theorem upr_comm {α : Type} {f : Nat → Nat → α} {k k' : Nat} {r r' : Nat → α} (h : k ≠ k') : upr (upr f k r) k' r' = upr (upr f k' r') k r := by
  funext i
  unfold upr
  by_cases h1 : i = k'
  · rw [if_pos h1, if_neg (fun e => h (e.symm.trans h1)), if_pos h1]
  · rw [if_neg h1]
    by_cases h2 : i = k
    · rw [if_pos h2, if_pos h2]
    · rw [if_neg h2, if_neg h2, if_neg h1]
theorem ts_eq : tkS σ a b c v = (upr σ.1 0 (upd (upd (upd (σ.1 0) 12 a) 13 b) 14 c), upr σ.2 0 (updl (σ.2 0) 15 v)) := rfl
theorem si_tsj {j : Nat} : si (tkS σ a b c v) 0 j x = (upr σ.1 0 (upd (upd (upd (upd (σ.1 0) 12 a) 13 b) 14 c) j x), upr σ.2 0 (updl (σ.2 0) 15 v)) := by
  rw [ts_eq]
  unfold si
  dsimp only
  rw [upr_upr, upr_eq]
theorem si_ts12 : si (tkS σ a b c v) 0 12 x = tkS σ x b c v := by
  rw [si_tsj, ts_eq, fa_upd_swap _ (by decide : (14 : Nat) ≠ 12), fa_upd_swap _ (by decide : (13 : Nat) ≠ 12), fa_upd_twice]
theorem si_ts13 : si (tkS σ a b c v) 0 13 x = tkS σ a x c v := by
  rw [si_tsj, ts_eq, fa_upd_swap _ (by decide : (14 : Nat) ≠ 13), fa_upd_twice]
theorem si_ts14 : si (tkS σ a b c v) 0 14 x = tkS σ a b x v := by
  rw [si_tsj, ts_eq, fa_upd_twice]
theorem si_ts11 : si (tkS σ a b c v) 0 11 x = tkS (sr σ 0 (upd (σ.1 0) 11 x)) a b c v := by
  rw [si_tsj, ts_eq, sr1, fa_upd_swap _ (by decide : (14 : Nat) ≠ 11), fa_upd_swap _ (by decide : (13 : Nat) ≠ 11), fa_upd_swap _ (by decide : (12 : Nat) ≠ 11)]
  unfold sr
  dsimp only
  rw [upr_upr]
theorem sl_ts15 : sl (tkS σ a b c v) 0 15 w = tkS σ a b c w := by
  rw [ts_eq, ts_eq]
  unfold sl
  dsimp only
  rw [upr_upr, upr_eq]
  congr 2
  funext j
  unfold updl
  by_cases h : j = 15
  · rw [if_pos h, if_pos h]
  · rw [if_neg h, if_neg h, if_neg h]
theorem ts_ts {a' b' c' : Int32} {v' : Int64} : tkS (tkS σ a b c v) a' b' c' v' = tkS σ a' b' c' v' := by
  rw [ts_eq (σ := tkS σ a b c v), ts_eq (σ := σ) (a := a')]
  rw [show (tkS σ a b c v).1 = upr σ.1 0 (upd (upd (upd (σ.1 0) 12 a) 13 b) 14 c) from rfl, show (tkS σ a b c v).2 = upr σ.2 0 (updl (σ.2 0) 15 v) from rfl, upr_upr, upr_upr, upr_eq, upr_eq]
  congr 2
  · funext j
    simp only [updI]
    by_cases h : j = 14
    · rw [if_pos h, if_pos h]
    · rw [if_neg h, if_neg h, if_neg h]
      by_cases h : j = 13
      · rw [if_pos h, if_pos h]
      · rw [if_neg h, if_neg h, if_neg h]
        by_cases h : j = 12
        · rw [if_pos h, if_pos h]
        · rw [if_neg h, if_neg h, if_neg h]
  · funext j
    unfold updl
    by_cases h : j = 15
    · rw [if_pos h, if_pos h]
    · rw [if_neg h, if_neg h, if_neg h]
theorem sr_ts {k : Nat} (h : k ≠ 0) : sr (tkS σ a b c v) k r = tkS (sr σ k r) a b c v := by
  rw [ts_eq, ts_eq, sr1n (fun e => h e.symm)]
  unfold sr
  dsimp only
  rw [upr_comm (fun e => h e.symm)]
theorem sr_ts1 : sr (tkS σ a b c v) 1 r = tkS (sr σ 1 r) a b c v := sr_ts (by decide)
theorem sr_ts3 : sr (tkS σ a b c v) 3 r = tkS (sr σ 3 r) a b c v := sr_ts (by decide)
end TS
/-- a word's number, by 27 -/
def hsU (T : Nat → Int32) (b : Nat) : Nat → Nat
  | 0 => 0
  | i + 1 => if 99999999999 < hsU T b i then hsU T b i else hsU T b i * 27 + (dgN (T (b + i)) - 96)
/-- a number's, no further than it is known to be too large -/
def dvU (T : Nat → Int32) (b : Nat) : Nat → Nat
  | 0 => 0
  | i + 1 => if 1023 < dvU T b i then dvU T b i else dvU T b i * 10 + (dgN (T (b + i)) - 48)
theorem hsU_le {T : Nat → Int32} {b : Nat} : ∀ i, (∀ k, k < i → isLt (T (b + k)) = true) → hsU T b i ≤ 9999999999999
  | 0, _ => Nat.zero_le _
  | i + 1, h => by
    have ih := hsU_le i (fun k hk => h k (by omega))
    obtain ⟨n, h1, h2, e⟩ := isLt_n.mp (h i (by omega))
    have e2 : dgN (T (b + i)) = n := by unfold dgN; rw [e]; exact nI_clamp (by omega)
    unfold hsU
    rw [e2]
    split <;> omega
theorem dvU_le {T : Nat → Int32} {b : Nat} : ∀ i, (∀ k, k < i → isDg (T (b + k)) = true) → dvU T b i ≤ 10239 ∧ ((dvU T b i ≤ 1023 ∧ nvU T b i = dvU T b i) ∨ (1023 < dvU T b i ∧ nvU T b i = 1024))
  | 0, _ => ⟨Nat.zero_le _, Or.inl ⟨Nat.zero_le _, rfl⟩⟩
  | i + 1, h => by
    have ih := dvU_le i (fun k hk => h k (by omega))
    obtain ⟨n, h1, h2, e⟩ := isDg_n.mp (h i (by omega))
    have e2 : dgN (T (b + i)) = n := by unfold dgN; rw [e]; exact nI_clamp (by omega)
    unfold dvU nvU
    rw [e2]
    split <;> split <;> omega
/-- what the token's number is, in the reference -/
def okv (T : Nat → Int32) (tk : Tk) (v : Int64) : Prop := (tk.1 = 1 → v = lN (hsU T tk.2.1 (tk.2.2.1 - tk.2.1))) ∧ (tk.1 = 2 → v = lN tk.2.2.2)
theorem okv_n {T : Nat → Int32} {s b e n : Nat} {v : Int64} (h1 : s ≠ 1) (h2 : s ≠ 2) : okv T (s, b, e, n) v := ⟨fun z => absurd z h1, fun z => absurd z h2⟩
theorem okv_1 {T : Nat → Int32} {b e n : Nat} {v : Int64} (h : v = lN (hsU T b (e - b))) : okv T (1, b, e, n) v := ⟨fun _ => h, fun z => absurd z (show ¬ (1 : Nat) = 2 by decide)⟩
theorem okv_2 {T : Nat → Int32} {b e n : Nat} {v : Int64} (h : v = lN n) : okv T (2, b, e, n) v := ⟨fun z => absurd z (show ¬ (2 : Nat) = 1 by decide), fun _ => h⟩
section MR
variable {ev : EV} {σ : St2} {K : PO}
theorem isSp_n {x : Int32} : isSp x = true ↔ x = 32 := by unfold isSp; rw [beq_iff_eq]
theorem isLt_y {x : Int32} (h : isLt x = true) : in1F x 97 122 = 1 := by unfold isLt at h; rwa [beq_iff_eq] at h
theorem isLt_f {x : Int32} (h : ¬ isLt x = true) : in1F x 97 122 = 0 := by
  unfold isLt at h
  rw [beq_iff_eq] at h
  exact (in1F_01 _ _ _).resolve_right h
theorem isDg_y {x : Int32} (h : isDg x = true) : in1F x 48 57 = 1 := by unfold isDg at h; rwa [beq_iff_eq] at h
theorem isDg_f {x : Int32} (h : ¬ isDg x = true) : in1F x 48 57 = 0 := by
  unfold isDg at h
  rw [beq_iff_eq] at h
  exact (in1F_01 _ _ _).resolve_right h
theorem R_nextToken {p τ : Nat} (h14 : σ.1 0 14 = nI p) (h11 : σ.1 0 11 = nI τ) (hτ : τ ≤ 120) (hp : p ≤ τ) (hk : ∀ v, okv (σ.1 8) (tok (σ.1 8) τ p) v → K none (tkS σ (nI (tok (σ.1 8) τ p).1) (nI (tok (σ.1 8) τ p).2.1) (nI (tok (σ.1 8) τ p).2.2.1) v)) : Rn 1 ev mM_nextToken [.ref 0] σ K := by
  refine Rn_V (by decide) rc6 rfl rfl ?_
  rw [← ts_self (σ := σ), h14]
  generalize σ.1 0 12 = a0
  generalize σ.1 0 13 = b0
  generalize σ.2 0 15 = v0
  generalize hT : σ.1 8 = T at *
  have rd : ∀ (i : Nat), i < τ → vp_in (nI i) 120 ∧ (nI i).toNatClampNeg = i := fun i hi => ⟨vp_in_nI (by omega) (by decide), nI_clamp (by omega)⟩
  unfold tok at hk
  refine PW_blk okM_nextToken 0 rfl SpM_ok ?_
  simp only [wL0, wLc, true_and, w2, lg0, lgi, lgr, lgl, w33, kM0, w36, w71, ts11, ts12, ts13, ts14, ts15, ts_8, si_ts12, si_ts13, si_ts14, sl_ts15]
  generalize hb : run isSp T τ p = b at *
  have hb1 : p ≤ b := by rw [← hb]; exact run_le
  have hb2 : b ≤ τ := by rw [← hb]; exact run_le2 hp
  have hbin : ∀ i, p ≤ i → i < b → i < τ ∧ isSp (T i) = true := fun i h1 h2 => run_in h1 (by rw [hb]; exact h2)
  have hbend : ¬ (b < τ ∧ isSp (T b) = true) := by rw [← hb]; exact run_end
  have main : PW 1 ev mM_nextToken 46 [.ref 0] [] (tkS σ a0 (nI b) (nI p) v0) K := by
    refine PW_blk okM_nextToken 4 rfl SpM_ok ?_
    simp only [wL0, wLc, true_and, w2, lg0, lgi, lgr, lgl, w33, kM0, w36, w53, w38, w79, ts11, ts12, ts13, ts14, ts15, ts_8, si_ts12, si_ts13, si_ts14, sl_ts15, h11]
    unfold tokB at hk
    rw [nI_eq_iff (by omega) (by omega)]
    by_cases c0 : b = τ
    · subst c0
      rw [if_pos (Nat.le_refl _)] at hk
      refine b3Y rfl ?_
      refine PW_blk okM_nextToken 5 rfl SpM_ok ?_
      simp only [wL0, wLc, true_and, w2, lg0, lgi, lgr, lgl, w0, w36, kM0, w70, ts11, ts12, ts13, ts14, ts15, ts_8, si_ts12, si_ts13, si_ts14, sl_ts15]
      refine PW_blk okM_nextToken 29 rfl SpM_ok ?_
      simp only [wL0, w87]
      exact hk _ (okv_n (by decide) (by decide))
    refine b3N c0 ?_
    rw [if_neg (by omega)] at hk
    obtain ⟨rb1, rb2⟩ := rd b (by omega)
    refine PW_blk okM_nextToken 6 rfl SpM_ok ?_
    simp only [wL0, wLc, true_and, w2, lg0, lgi, lgr, lgl, w35, kM0, rM10, kM8, nM8, w33, w39, w55_1, q40, q41, q42, q43, q44, Option.toList_some, Option.toList_none, List.cons_append, List.nil_append, sp_isLetter, w72, ts11, ts12, ts13, ts14, ts15, ts_8, si_ts12, si_ts13, si_ts14, sl_ts15, hT, eq_true rb1, rb2]
    by_cases c1 : isLt (T b) = true
    · rw [if_pos c1] at hk
      refine bY (isLt_y c1) ?_
      refine PW_blk okM_nextToken 7 rfl SpM_ok ?_
      simp only [wL0, wLc, true_and, w2, lg0, lgi, lgr, lgl, w0, w36, kM0, w71, ts11, ts12, ts13, ts14, ts15, ts_8, si_ts12, si_ts13, si_ts14, sl_ts15]
      generalize he : run isLt T τ b = e at *
      have he1 : b ≤ e := by rw [← he]; exact run_le
      have he2 : e ≤ τ := by rw [← he]; exact run_le2 hb2
      have hein : ∀ i, b ≤ i → i < e → i < τ ∧ isLt (T i) = true := fun i h1 h2 => run_in h1 (by rw [he]; exact h2)
      have heend : ¬ (e < τ ∧ isLt (T e) = true) := by rw [← he]; exact run_end
      have key := lp_up (n := e) (P := fun q => b ≤ q → PW 1 ev mM_nextToken 98 [.ref 0] [] (tkS σ 1 (nI b) (nI q) (lN (hsU T b (q - b)))) K) ?_ ?_ b he1 (Nat.le_refl _)
      · rw [Nat.sub_self] at key
        exact key
      · intro _
        have fin : PW 1 ev mM_nextToken 337 [.ref 0] [] (tkS σ 1 (nI b) (nI e) (lN (hsU T b (e - b)))) K := by
          refine PW_blk okM_nextToken 29 rfl SpM_ok ?_
          simp only [wL0, w87]
          exact hk _ (okv_1 rfl)
        refine PW_blk okM_nextToken 8 rfl SpM_ok ?_
        simp only [wL0, wLc, true_and, w2, lg0, lgi, lgr, lgl, w33, kM0, w81, ts11, ts12, ts13, ts14, ts15, ts_8, si_ts12, si_ts13, si_ts14, sl_ts15, h11]
        rw [nI_lt_iff (by omega) (by omega)]
        by_cases c2 : e < τ
        · refine b3Y c2 ?_
          obtain ⟨re1, re2⟩ := rd e c2
          refine PW_blk okM_nextToken 9 rfl SpM_ok ?_
          simp only [wL0, wLc, true_and, w2, lg0, lgi, lgr, lgl, w35, kM0, rM10, kM8, nM8, w33, w39, w55_1, q40, q41, q42, q43, q44, Option.toList_some, Option.toList_none, List.cons_append, List.nil_append, sp_isLetter, w72, ts11, ts12, ts13, ts14, ts15, ts_8, si_ts12, si_ts13, si_ts14, sl_ts15, hT, eq_true re1, re2]
          exact bN (isLt_f (fun z => heend ⟨c2, z⟩)) fin
        · exact b3N c2 fin
      · intro q hq ih hbq
        obtain ⟨q1, q2⟩ := hein q hbq hq
        obtain ⟨rq1, rq2⟩ := rd q q1
        have hle := hsU_le (T := T) (b := b) (q - b) (fun k hk2 => (hein (b + k) (by omega) (by omega)).2)
        obtain ⟨x, x1, x2, x3⟩ := isLt_n.mp q2
        have ex : dgN (T q) = x := by unfold dgN; rw [x3]; exact nI_clamp (by omega)
        have ih := ih (by omega)
        rw [show q + 1 - b = (q - b) + 1 by omega] at ih
        unfold hsU at ih
        rw [show b + (q - b) = q by omega, ex] at ih
        refine PW_blk okM_nextToken 8 rfl SpM_ok ?_
        simp only [wL0, wLc, true_and, w2, lg0, lgi, lgr, lgl, w33, kM0, w81, ts11, ts12, ts13, ts14, ts15, ts_8, si_ts12, si_ts13, si_ts14, sl_ts15, h11]
        refine b3Y (nI_lt q1 (by omega)) ?_
        refine PW_blk okM_nextToken 9 rfl SpM_ok ?_
        simp only [wL0, wLc, true_and, w2, lg0, lgi, lgr, lgl, w35, kM0, rM10, kM8, nM8, w33, w39, w55_1, q40, q41, q42, q43, q44, Option.toList_some, Option.toList_none, List.cons_append, List.nil_append, sp_isLetter, w72, ts11, ts12, ts13, ts14, ts15, ts_8, si_ts12, si_ts13, si_ts14, sl_ts15, hT, eq_true rq1, rq2]
        refine bY (isLt_y q2) ?_
        refine PW_blk okM_nextToken 10 rfl SpM_ok ?_
        simp only [wL0, wLc, true_and, w2, lg0, lgi, lgr, lgl, w34, kM0, w53, w27, w77, ts11, ts12, ts13, ts14, ts15, ts_8, si_ts12, si_ts13, si_ts14, sl_ts15]
        rw [cmp_pos (by omega) (by decide)]
        by_cases c3 : 99999999999 < hsU T b (q - b)
        · rw [if_pos c3] at ih
          refine b3Y c3 ?_
          refine PW_blk okM_nextToken 11 rfl SpM_ok ?_
          simp only [wL0, wLc, true_and, w2, lg0, lgi, lgr, lgl, w34, kM0, w70, ts11, ts12, ts13, ts14, ts15, ts_8, si_ts12, si_ts13, si_ts14, sl_ts15]
          refine PW_blk okM_nextToken 13 rfl SpM_ok ?_
          simp only [wL0, wLc, true_and, w38, kM0, w2, lg0, lgi, lgr, lgl, w8i, w8r, w33, w0, w11, w36, w70, ts11, ts12, ts13, ts14, ts15, ts_8, si_ts12, si_ts13, si_ts14, sl_ts15]
          rw [show (1 : Int32) = nI 1 from rfl, nI_add]
          exact ih
        · rw [if_neg c3] at ih
          refine b3N c3 ?_
          refine PW_blk okM_nextToken 12 rfl SpM_ok ?_
          simp only [wL0, wLc, true_and, w2, lg0, lgi, lgr, lgl, w34, kM0, w53, w24, w35, rM10, kM8, nM8, w33, w39, w28, w22, w23, w71, ts11, ts12, ts13, ts14, ts15, ts_8, si_ts12, si_ts13, si_ts14, sl_ts15, hT, eq_true rq1, rq2, x3]
          rw [nI_l (by omega), lN_mul, lN_add, lN_sub (by omega)]
          refine PW_blk okM_nextToken 13 rfl SpM_ok ?_
          simp only [wL0, wLc, true_and, w38, kM0, w2, lg0, lgi, lgr, lgl, w8i, w8r, w33, w0, w11, w36, w70, ts11, ts12, ts13, ts14, ts15, ts_8, si_ts12, si_ts13, si_ts14, sl_ts15]
          rw [show (1 : Int32) = nI 1 from rfl, nI_add, show hsU T b (q - b) * 27 + x - 96 = hsU T b (q - b) * 27 + (x - 96) by omega]
          exact ih
    rw [if_neg c1] at hk
    refine bN (isLt_f c1) ?_
    refine PW_blk okM_nextToken 14 rfl SpM_ok ?_
    simp only [wL0, wLc, true_and, w2, lg0, lgi, lgr, lgl, w35, kM0, rM10, kM8, nM8, w33, w39, w55_1, q40, q41, q42, q43, q44, Option.toList_some, Option.toList_none, List.cons_append, List.nil_append, sp_isDigit, w72, ts11, ts12, ts13, ts14, ts15, ts_8, si_ts12, si_ts13, si_ts14, sl_ts15, hT, eq_true rb1, rb2]
    by_cases c2 : isDg (T b) = true
    · rw [if_pos c2] at hk
      refine bY (isDg_y c2) ?_
      generalize he : run isDg T τ b = e at *
      have he1 : b ≤ e := by rw [← he]; exact run_le
      have he2 : e ≤ τ := by rw [← he]; exact run_le2 hb2
      have hein : ∀ i, b ≤ i → i < e → i < τ ∧ isDg (T i) = true := fun i h1 h2 => run_in h1 (by rw [he]; exact h2)
      have heend : ¬ (e < τ ∧ isDg (T e) = true) := by rw [← he]; exact run_end
      have key := lp_up (n := e) (P := fun q => b ≤ q → PW 1 ev mM_nextToken 197 [.ref 0] [] (tkS σ a0 (nI b) (nI q) (lN (dvU T b (q - b)))) K) ?_ ?_ b he1 (Nat.le_refl _)
      · rw [Nat.sub_self] at key
        exact key
      · intro _
        obtain ⟨d1, d2⟩ := dvU_le (T := T) (b := b) (e - b) (fun k hk2 => (hein (b + k) (by omega) (by omega)).2)
        have fin : PW 1 ev mM_nextToken 281 [.ref 0] [] (tkS σ a0 (nI b) (nI e) (lN (dvU T b (e - b)))) K := by
          refine PW_blk okM_nextToken 21 rfl SpM_ok ?_
          simp only [wL0, wLc, true_and, w2, lg0, lgi, lgr, lgl, w34, kM0, w53, w27, w77, ts11, ts12, ts13, ts14, ts15, ts_8, si_ts12, si_ts13, si_ts14, sl_ts15]
          rw [cmp_pos (by omega) (by decide)]
          by_cases c3 : 1023 < dvU T b (e - b)
          · rw [if_pos (by omega)] at hk
            refine b3Y c3 ?_
            refine PW_blk okM_nextToken 22 rfl SpM_ok ?_
            simp only [wL0, wLc, true_and, w0, w70, ts11, ts12, ts13, ts14, ts15, ts_8, si_ts12, si_ts13, si_ts14, sl_ts15]
            refine PW_blk okM_nextToken 24 rfl SpM_ok ?_
            simp only [wL0, wLc, true_and, w36, kM0, w70, ts11, ts12, ts13, ts14, ts15, ts_8, si_ts12, si_ts13, si_ts14, sl_ts15]
            refine PW_blk okM_nextToken 29 rfl SpM_ok ?_
            simp only [wL0, w87]
            exact hk _ (okv_n (by decide) (by decide))
          · rw [if_neg (by omega)] at hk
            refine b3N c3 ?_
            refine PW_blk okM_nextToken 23 rfl SpM_ok ?_
            simp only [wL0, wLc, true_and, w0, w71, ts11, ts12, ts13, ts14, ts15, ts_8, si_ts12, si_ts13, si_ts14, sl_ts15]
            refine PW_blk okM_nextToken 24 rfl SpM_ok ?_
            simp only [wL0, wLc, true_and, w36, kM0, w70, ts11, ts12, ts13, ts14, ts15, ts_8, si_ts12, si_ts13, si_ts14, sl_ts15]
            refine PW_blk okM_nextToken 29 rfl SpM_ok ?_
            simp only [wL0, w87]
            exact hk _ (okv_2 (by congr 1; omega))
        refine PW_blk okM_nextToken 15 rfl SpM_ok ?_
        simp only [wL0, wLc, true_and, w2, lg0, lgi, lgr, lgl, w33, kM0, w81, ts11, ts12, ts13, ts14, ts15, ts_8, si_ts12, si_ts13, si_ts14, sl_ts15, h11]
        rw [nI_lt_iff (by omega) (by omega)]
        by_cases c2 : e < τ
        · refine b3Y c2 ?_
          obtain ⟨re1, re2⟩ := rd e c2
          refine PW_blk okM_nextToken 16 rfl SpM_ok ?_
          simp only [wL0, wLc, true_and, w2, lg0, lgi, lgr, lgl, w35, kM0, rM10, kM8, nM8, w33, w39, w55_1, q40, q41, q42, q43, q44, Option.toList_some, Option.toList_none, List.cons_append, List.nil_append, sp_isDigit, w72, ts11, ts12, ts13, ts14, ts15, ts_8, si_ts12, si_ts13, si_ts14, sl_ts15, hT, eq_true re1, re2]
          exact bN (isDg_f (fun z => heend ⟨c2, z⟩)) fin
        · exact b3N c2 fin
      · intro q hq ih hbq
        obtain ⟨q1, q2⟩ := hein q hbq hq
        obtain ⟨rq1, rq2⟩ := rd q q1
        obtain ⟨hle, -⟩ := dvU_le (T := T) (b := b) (q - b) (fun k hk2 => (hein (b + k) (by omega) (by omega)).2)
        obtain ⟨x, x1, x2, x3⟩ := isDg_n.mp q2
        have ex : dgN (T q) = x := by unfold dgN; rw [x3]; exact nI_clamp (by omega)
        have ih := ih (by omega)
        rw [show q + 1 - b = (q - b) + 1 by omega] at ih
        unfold dvU at ih
        rw [show b + (q - b) = q by omega, ex] at ih
        refine PW_blk okM_nextToken 15 rfl SpM_ok ?_
        simp only [wL0, wLc, true_and, w2, lg0, lgi, lgr, lgl, w33, kM0, w81, ts11, ts12, ts13, ts14, ts15, ts_8, si_ts12, si_ts13, si_ts14, sl_ts15, h11]
        refine b3Y (nI_lt q1 (by omega)) ?_
        refine PW_blk okM_nextToken 16 rfl SpM_ok ?_
        simp only [wL0, wLc, true_and, w2, lg0, lgi, lgr, lgl, w35, kM0, rM10, kM8, nM8, w33, w39, w55_1, q40, q41, q42, q43, q44, Option.toList_some, Option.toList_none, List.cons_append, List.nil_append, sp_isDigit, w72, ts11, ts12, ts13, ts14, ts15, ts_8, si_ts12, si_ts13, si_ts14, sl_ts15, hT, eq_true rq1, rq2]
        refine bY (isDg_y q2) ?_
        refine PW_blk okM_nextToken 17 rfl SpM_ok ?_
        simp only [wL0, wLc, true_and, w2, lg0, lgi, lgr, lgl, w34, kM0, w53, w27, w77, ts11, ts12, ts13, ts14, ts15, ts_8, si_ts12, si_ts13, si_ts14, sl_ts15]
        rw [cmp_pos (by omega) (by decide)]
        by_cases c3 : 1023 < dvU T b (q - b)
        · rw [if_pos c3] at ih
          refine b3Y c3 ?_
          refine PW_blk okM_nextToken 18 rfl SpM_ok ?_
          simp only [wL0, wLc, true_and, w2, lg0, lgi, lgr, lgl, w34, kM0, w70, ts11, ts12, ts13, ts14, ts15, ts_8, si_ts12, si_ts13, si_ts14, sl_ts15]
          refine PW_blk okM_nextToken 20 rfl SpM_ok ?_
          simp only [wL0, wLc, true_and, w38, kM0, w2, lg0, lgi, lgr, lgl, w8i, w8r, w33, w0, w11, w36, w70, ts11, ts12, ts13, ts14, ts15, ts_8, si_ts12, si_ts13, si_ts14, sl_ts15]
          rw [show (1 : Int32) = nI 1 from rfl, nI_add]
          exact ih
        · rw [if_neg c3] at ih
          refine b3N c3 ?_
          refine PW_blk okM_nextToken 19 rfl SpM_ok ?_
          simp only [wL0, wLc, true_and, w2, lg0, lgi, lgr, lgl, w34, kM0, w53, w24, w35, rM10, kM8, nM8, w33, w39, w28, w22, w23, w71, ts11, ts12, ts13, ts14, ts15, ts_8, si_ts12, si_ts13, si_ts14, sl_ts15, hT, eq_true rq1, rq2, x3]
          rw [nI_l (by omega), lN_mul, lN_add, lN_sub (by omega)]
          refine PW_blk okM_nextToken 20 rfl SpM_ok ?_
          simp only [wL0, wLc, true_and, w38, kM0, w2, lg0, lgi, lgr, lgl, w8i, w8r, w33, w0, w11, w36, w70, ts11, ts12, ts13, ts14, ts15, ts_8, si_ts12, si_ts13, si_ts14, sl_ts15]
          rw [show (1 : Int32) = nI 1 from rfl, nI_add, show dvU T b (q - b) * 10 + x - 48 = dvU T b (q - b) * 10 + (x - 48) by omega]
          exact ih
    rw [if_neg c2] at hk
    refine bN (isDg_f c2) ?_
    refine PW_blk okM_nextToken 25 rfl SpM_ok ?_
    simp only [wL0, wLc, true_and, w2, lg0, lgi, lgr, lgl, w35, kM0, rM10, kM8, nM8, w33, w39, w0, w79, ts11, ts12, ts13, ts14, ts15, ts_8, si_ts12, si_ts13, si_ts14, sl_ts15, hT, eq_true rb1, rb2]
    by_cases c4 : T b = 59
    · rw [if_pos c4] at hk
      refine b3Y c4 ?_
      refine PW_blk okM_nextToken 26 rfl SpM_ok ?_
      simp only [wL0, wLc, true_and, w0, w70, ts11, ts12, ts13, ts14, ts15, ts_8, si_ts12, si_ts13, si_ts14, sl_ts15]
      refine PW_blk okM_nextToken 28 rfl SpM_ok ?_
      simp only [wL0, wLc, true_and, w36, kM0, w2, lg0, lgi, lgr, lgl, w8i, w8r, w33, w0, w11, w71, ts11, ts12, ts13, ts14, ts15, ts_8, si_ts12, si_ts13, si_ts14, sl_ts15]
      refine PW_blk okM_nextToken 29 rfl SpM_ok ?_
      simp only [wL0, w87]
      rw [show (1 : Int32) = nI 1 from rfl, nI_add]
      exact hk _ (okv_n (by decide) (by decide))
    · rw [if_neg c4] at hk
      refine b3N c4 ?_
      refine PW_blk okM_nextToken 27 rfl SpM_ok ?_
      simp only [wL0, wLc, true_and, w0, w71, ts11, ts12, ts13, ts14, ts15, ts_8, si_ts12, si_ts13, si_ts14, sl_ts15]
      refine PW_blk okM_nextToken 28 rfl SpM_ok ?_
      simp only [wL0, wLc, true_and, w36, kM0, w2, lg0, lgi, lgr, lgl, w8i, w8r, w33, w0, w11, w71, ts11, ts12, ts13, ts14, ts15, ts_8, si_ts12, si_ts13, si_ts14, sl_ts15]
      refine PW_blk okM_nextToken 29 rfl SpM_ok ?_
      simp only [wL0, w87]
      rw [show (1 : Int32) = nI 1 from rfl, nI_add]
      exact hk _ (okv_n (by decide) (by decide))
  have key := lp_up (n := b) (P := fun q => p ≤ q → PW 1 ev mM_nextToken 8 [.ref 0] [] (tkS σ a0 (nI q) (nI p) v0) K) ?_ ?_ p hb1 (Nat.le_refl _)
  · exact key
  · intro _
    refine PW_blk okM_nextToken 1 rfl SpM_ok ?_
    simp only [wL0, wLc, true_and, w2, lg0, lgi, lgr, lgl, w33, kM0, w81, ts11, ts12, ts13, ts14, ts15, ts_8, si_ts12, si_ts13, si_ts14, sl_ts15, h11]
    rw [nI_lt_iff (by omega) (by omega)]
    by_cases c2 : b < τ
    · refine b3Y c2 ?_
      obtain ⟨re1, re2⟩ := rd b c2
      refine PW_blk okM_nextToken 2 rfl SpM_ok ?_
      simp only [wL0, wLc, true_and, w2, lg0, lgi, lgr, lgl, w35, kM0, rM10, kM8, nM8, w33, w39, w0, w79, ts11, ts12, ts13, ts14, ts15, ts_8, si_ts12, si_ts13, si_ts14, sl_ts15, hT, eq_true re1, re2]
      exact b3N (fun z => hbend ⟨c2, isSp_n.mpr z⟩) main
    · exact b3N c2 main
  · intro q hq ih hpq
    obtain ⟨q1, q2⟩ := hbin q hpq hq
    obtain ⟨rq1, rq2⟩ := rd q q1
    refine PW_blk okM_nextToken 1 rfl SpM_ok ?_
    simp only [wL0, wLc, true_and, w2, lg0, lgi, lgr, lgl, w33, kM0, w81, ts11, ts12, ts13, ts14, ts15, ts_8, si_ts12, si_ts13, si_ts14, sl_ts15, h11]
    refine b3Y (nI_lt q1 (by omega)) ?_
    refine PW_blk okM_nextToken 2 rfl SpM_ok ?_
    simp only [wL0, wLc, true_and, w2, lg0, lgi, lgr, lgl, w35, kM0, rM10, kM8, nM8, w33, w39, w0, w79, ts11, ts12, ts13, ts14, ts15, ts_8, si_ts12, si_ts13, si_ts14, sl_ts15, hT, eq_true rq1, rq2]
    refine b3Y (isSp_n.mp q2) ?_
    refine PW_blk okM_nextToken 3 rfl SpM_ok ?_
    simp only [wL0, wLc, true_and, w2, lg0, lgi, lgr, lgl, w8i, w8r, w33, kM0, w0, w11, w36, w70, ts11, ts12, ts13, ts14, ts15, ts_8, si_ts12, si_ts13, si_ts14, sl_ts15]
    rw [show (1 : Int32) = nI 1 from rfl, nI_add]
    exact ih (by omega)
end MR
