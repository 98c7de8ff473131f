/-! strings and tokens of the class -/
def wS : List (List Nat) := [wK 1, wK 2, wK 3, wK 4, wK 5, wK 6, wK 0, wR 0, wR 1, wR 2, wO 0, wO 1, wO 2, wO 3, wO 4, wO 5]
def wI (i : Nat) : List Nat := wS.getD i []
theorem sh_w : ∀ i, i < 16 → (shp 0 (300 + i + 100)).2 = (wI i).length := by decide +kernel
theorem cst_w : ∀ i, i < 16 → ∀ q, q < (wI i).length → cst (300 + i + 100) q = nI ((wI i).getD q 0) := by decide +kernel
theorem wI_len : ∀ i, i < 16 → (wI i).length ≤ 6 := by decide +kernel
theorem wI_ch : ∀ i, i < 16 → ∀ q, q < (wI i).length → (wI i).getD q 0 < 256 := by decide +kernel
theorem ch_c : ∀ c, c < 256 → ((nI c &&& 255).toUInt32 % 65536).toInt32 = nI c := by decide +kernel
theorem ch_n : ∀ c, c < 256 → (nI c).toUInt32.toUInt16.toUInt32.toInt32 = nI c := by decide +kernel
theorem nar_c {c : Nat} (h : c < 256) : narrow .char (.int (nI c)) = .int (nI c) := congrArg Value.int (ch_n c h)
theorem rcS {i : Nat} (h : i < 16) : rcv 0 9 (300 + i) := Or.inr ⟨rfl, rfl, by omega, by omega⟩
theorem g3i {i : Nat} (h : i < 16) : (300 ≤ 300 + i ∧ 300 + i < 316) = True := eq_true ⟨by omega, by omega⟩
theorem g4i {i : Nat} (h : i < 16) : (400 ≤ 300 + i + 100 ∧ 300 + i + 100 < 416) = True := eq_true ⟨by omega, by omega⟩
theorem byF_n {T : Nat → Int32} {τ i : Nat} (hτ : τ ≤ 120) (hi : i < τ) : byF (nI τ) T (nI i) = T i := by
  unfold byF
  rw [if_neg (lt0 (by omega)), if_pos (nI_lt hi (by omega)), if_pos (show nI i < 120 from nI_lt (b := 120) (by omega) (by decide)), nI_clamp (by omega)]
/-- the token in the tape's own fields -/
def XK (q : Nat → Int32) (τ : Nat) (tk : Tk) : Prop := q 1 = nI τ ∧ q 2 = nI tk.2.1 ∧ q 3 = nI tk.2.2.1 ∧ (tk.1 ≠ 4 → q 4 = nI tk.1) ∧ (tk.1 = 2 → q 5 = nI tk.2.2.2) ∧ (tk.1 = 4 → q 4 = 4 ∨ (q 4 = 2 ∧ q 5 = 1024)) 
theorem XK_n {q : Nat → Int32} {τ n : Nat} {tk : Tk} (h : XK q τ tk) (h4 : tk.1 ≤ 4) (hn : n ≤ 3) (h2 : n ≠ 2) : q 4 = nI n ↔ tk.1 = n := by
  obtain ⟨-, -, -, h5, -, h6⟩ := h
  by_cases c : tk.1 = 4
  · rcases h6 c with z | z
    · rw [z, c, show (4 : Int32) = nI 4 from rfl, nI_eq_iff (by decide) (by omega)]
    · rw [z.1, c, show (2 : Int32) = nI 2 from rfl, nI_eq_iff (by decide) (by omega)]
      omega
  · rw [h5 c, nI_eq_iff (by omega) (by omega)]
section TX
variable {ev : EV} {σ : St2} {K : PO}
theorem X_coder {i : Nat} (hi : i < 16) (hk : K (some (.int 0)) σ) : Rn 0 ev mJS_coder [.ref (300 + i)] σ K := by
  refine Rn_V (by decide) (rcS hi) rfl rfl ?_
  refine PW_blk okJS_coder 0 rfl SpX_ok ?_
  simp only [wL0, wLc, true_and, w46, w72]
  refine ⟨fun h => absurd h (by decide), fun _ => ?_⟩
  refine PW_blk okJS_coder 1 rfl SpX_ok ?_
  simp only [wL0, wLc, true_and, w2, lg0, lgi, lgr, lgl, w50, w70, g3i hi]
  refine PW_blk okJS_coder 3 rfl SpX_ok ?_
  simp only [wL0, w92]
  exact ⟨rfl, hk⟩
theorem X_isLatin1 {i : Nat} (hi : i < 16) (hk : K (some (.int 1)) σ) : Rn 0 ev mJS_isLatin1 [.ref (300 + i)] σ K := by
  refine Rn_V (by decide) (rcS hi) rfl rfl ?_
  refine PW_blk okJS_isLatin1 0 rfl SpX_ok ?_
  simp only [wL0, wLc, true_and, w46, w72]
  refine ⟨fun h => absurd h (by decide), fun _ => ?_⟩
  refine PW_blk okJS_isLatin1 1 rfl SpX_ok ?_
  simp only [wL0, wLc, true_and, w2, lg0, lgi, lgr, lgl, w50, w73, g3i hi]
  refine b3Y trivial ?_
  refine PW_blk okJS_isLatin1 2 rfl SpX_ok ?_
  simp only [wL0, wLc, true_and, w0, w70]
  refine PW_blk okJS_isLatin1 4 rfl SpX_ok ?_
  simp only [wL0, w85]
  exact ⟨Or.inr trivial, hk⟩
theorem X_strlen {i : Nat} (hi : i < 16) (hk : K (some (.int (nI (wI i).length))) σ) : Rn 0 ev mJS_length [.ref (300 + i)] σ K := by
  have hl := wI_len i hi
  refine Rn_V (by decide) (rcS hi) rfl rfl ?_
  refine PW_blk okJS_length 0 rfl SpX_ok ?_
  simp only [wL0, wLc, true_and, w2, lg0, lgi, lgr, lgl, w49, w52, w54_1, q40, q41, q42, q43, q44, Option.toList_some, Option.toList_none, List.cons_append, List.nil_append, w20, w84, g3i hi, g4i hi, sh_w i hi]
  refine X_coder hi ?_
  simp only [wL0, wLc, true_and, w2, lg0, lgi, lgr, lgl, w49, w52, w54_1, q40, q41, q42, q43, q44, Option.toList_some, Option.toList_none, List.cons_append, List.nil_append, w20, w84]
  have e : nI (wI i).length >>> ((0 : Int32) &&& 31) = nI (wI i).length := by
    have := nI_shr (o := (wI i).length) (k := 0) (by omega) (by decide)
    rw [Nat.pow_zero, Nat.div_one] at this
    exact this
  rw [e]
  exact hk
theorem X_pcheck {q n : Nat} {v : Value} (hv : v = .null ∨ v = .ref 999) (hq : q < n) (hn : n < 100) (hk : K (some (.int (nI q))) σ) : Rn 0 ev mJP_checkIndex [.int (nI q), .int (nI n), v] σ K := by
  rcases hv with rfl | rfl
  · refine Rn_S (by decide) rfl rfl rfl ?_
    refine PW_blk okJP_checkIndex 0 rfl SpX_ok ?_
    simp only [wL0, wLc, true_and, w1, lg0, lgi, lgr, lgl, w74]
    refine b2N (lt0 (by omega)) ?_
    refine PW_blk okJP_checkIndex 1 rfl SpX_ok ?_
    simp only [wL0, wLc, true_and, w1, lg0, lgi, lgr, lgl, w80]
    refine b2Y (nI_lt hq (by omega)) ?_
    refine PW_blk okJP_checkIndex 2 rfl SpX_ok ?_
    simp only [wL0, wLc, true_and, w1, lg0, lgi, lgr, lgl, w84]
    exact hk
  · refine Rn_S (by decide) rfl rfl rfl ?_
    refine PW_blk okJP_checkIndex 0 rfl SpX_ok ?_
    simp only [wL0, wLc, true_and, w1, lg0, lgi, lgr, lgl, w74]
    refine b2N (lt0 (by omega)) ?_
    refine PW_blk okJP_checkIndex 1 rfl SpX_ok ?_
    simp only [wL0, wLc, true_and, w1, lg0, lgi, lgr, lgl, w80]
    refine b2Y (nI_lt hq (by omega)) ?_
    refine PW_blk okJP_checkIndex 2 rfl SpX_ok ?_
    simp only [wL0, wLc, true_and, w1, lg0, lgi, lgr, lgl, w84]
    exact hk
theorem X_scheck {q n : Nat} (hq : q < n) (hn : n < 100) (hk : K none σ) : Rn 0 ev mJS_checkIndex [.int (nI q), .int (nI n)] σ K := by
  refine Rn_S (by decide) rfl rfl rfl ?_
  refine PW_blk okJS_checkIndex 0 rfl SpX_ok ?_
  simp only [wL0, wLc, true_and, w1, lg0, lgi, lgr, lgl, w47, w55_3, q40, q41, q42, q43, q44, Option.toList_some, Option.toList_none, List.cons_append, List.nil_append, w9i, w9r, w87]
  refine ⟨?_, ?_⟩
  · refine X_pcheck (Or.inl rfl) hq hn ?_
    simp only [wL0, wLc, true_and, w1, lg0, lgi, lgr, lgl, w47, w55_3, q40, q41, q42, q43, q44, Option.toList_some, Option.toList_none, List.cons_append, List.nil_append, w9i, w9r, w87]
    exact hk
  · refine X_pcheck (Or.inr rfl) hq hn ?_
    simp only [wL0, wLc, true_and, w1, lg0, lgi, lgr, lgl, w47, w55_3, q40, q41, q42, q43, q44, Option.toList_some, Option.toList_none, List.cons_append, List.nil_append, w9i, w9r, w87]
    exact hk
theorem X_lcharAt {i q : Nat} (hi : i < 16) (hq : q < (wI i).length) (hk : K (some (.int (nI ((wI i).getD q 0)))) σ) : Rn 0 ev mJL_charAt [.ref (300 + i + 100), .int (nI q)] σ K := by
  have hl := wI_len i hi
  have hc := wI_ch i hi q hq
  refine Rn_S (by decide) rfl rfl rfl ?_
  refine PW_blk okJL_charAt 0 rfl SpX_ok ?_
  simp only [wL0, wLc, true_and, w1, lg0, lgi, lgr, lgl, w2, w52, w55_2, q40, q41, q42, q43, q44, Option.toList_some, Option.toList_none, List.cons_append, List.nil_append, w51, w0, w16, w32, w89, g4i hi, sh_w i hi]
  refine X_scheck hq (by omega) ?_
  simp only [wL0, wLc, true_and, w1, lg0, lgi, lgr, lgl, w2, w52, w55_2, q40, q41, q42, q43, q44, Option.toList_some, Option.toList_none, List.cons_append, List.nil_append, w51, w0, w16, w32, w89, g4i hi, sh_w i hi, eq_true (vp_in_nI hq (by omega)), nI_clamp (show q < 2 ^ 31 by omega), cst_w i hi q hq, ch_c _ hc]
  exact ⟨nar_c hc, hk⟩
theorem X_charAt {i q : Nat} (hi : i < 16) (hq : q < (wI i).length) (hk : K (some (.int (nI ((wI i).getD q 0)))) σ) : Rn 0 ev mJS_charAt [.ref (300 + i), .int (nI q)] σ K := by
  refine Rn_V (by decide) (rcS hi) rfl rfl ?_
  refine PW_blk okJS_charAt 0 rfl SpX_ok ?_
  simp only [wL0, wLc, true_and, w2, lg0, lgi, lgr, lgl, w54_1, q40, q41, q42, q43, q44, Option.toList_some, Option.toList_none, List.cons_append, List.nil_append, w72]
  refine X_isLatin1 hi ?_
  simp only [wL0, wLc, true_and, w2, lg0, lgi, lgr, lgl, w54_1, q40, q41, q42, q43, q44, Option.toList_some, Option.toList_none, List.cons_append, List.nil_append, w72]
  refine b2N (by decide) ?_
  refine PW_blk okJS_charAt 1 rfl SpX_ok ?_
  simp only [wL0, wLc, true_and, w2, lg0, lgi, lgr, lgl, w49, w1, w55_2, q40, q41, q42, q43, q44, Option.toList_some, Option.toList_none, List.cons_append, List.nil_append, w89, g3i hi]
  refine X_lcharAt hi hq ?_
  simp only [wL0, wLc, true_and, w2, lg0, lgi, lgr, lgl, w49, w1, w55_2, q40, q41, q42, q43, q44, Option.toList_some, Option.toList_none, List.cons_append, List.nil_append, w89]
  exact ⟨nar_c (wI_ch i hi q hq), hk⟩
theorem X_isWord {i τ : Nat} {T : Nat → Int32} {tk : Tk} (hi : i < 16) (hτ : τ ≤ 120) (h52 : ∀ i, i < 120 → σ.1 52 i = T i) (hq : XK (σ.1 51) τ tk) (hw : tkw τ tk) (ht4 : tk.1 ≤ 4) (h1 : tk.1 = 1 ∧ isW T tk.2.1 tk.2.2.1 (wI i) → K (some (.int 1)) σ) (h0 : ¬ (tk.1 = 1 ∧ isW T tk.2.1 tk.2.2.1 (wI i)) → K (some (.int 0)) σ) : Rn 0 ev mT_isWord [.ref 51, .ref (300 + i)] σ K := by
  have hl := wI_len i hi
  have hx1 : σ.1 51 4 = 1 ↔ tk.1 = 1 := XK_n hq ht4 (n := 1) (by decide) (by decide)
  obtain ⟨q1, q2, q3, -, -, -⟩ := hq
  obtain ⟨w1', w2'⟩ := hw
  refine Rn_V (by decide) rc3 rfl rfl ?_
  have no : ¬ (tk.1 = 1 ∧ isW T tk.2.1 tk.2.2.1 (wI i)) → PW 0 ev mT_isWord 24 [.ref 51, .ref (300 + i)] [] σ K := by
    intro z
    refine PW_blk okT_isWord 2 rfl SpX_ok ?_
    simp only [wL0, wLc, true_and, w0, w85]
    exact ⟨Or.inl trivial, h0 z⟩
  refine PW_blk okT_isWord 0 rfl SpX_ok ?_
  simp only [wL0, wLc, true_and, w2, lg0, lgi, lgr, lgl, w33, kX51, w0, w79]
  by_cases c1 : tk.1 = 1
  rotate_left
  · exact b3N (fun z => c1 (hx1.mp z)) (no (fun z => c1 z.1))
  refine b3Y (hx1.mpr c1) ?_
  refine PW_blk okT_isWord 1 rfl SpX_ok ?_
  simp only [wL0, wLc, true_and, w2, lg0, lgi, lgr, lgl, w33, kX51, w12, w54_1, q40, q41, q42, q43, q44, Option.toList_some, Option.toList_none, List.cons_append, List.nil_append, w78, q2, q3]
  rw [pk_sub w1']
  refine X_strlen hi ?_
  simp only [wL0, wLc, true_and, w2, lg0, lgi, lgr, lgl, w33, kX51, w12, w54_1, q40, q41, q42, q43, q44, Option.toList_some, Option.toList_none, List.cons_append, List.nil_append, w78]
  rw [nI_eq_iff (by omega) (by omega)]
  by_cases c2 : tk.2.2.1 - tk.2.1 = (wI i).length
  rotate_left
  · exact b2N c2 (no (fun z => c2 (by have := z.2.1; omega)))
  refine b2Y c2 ?_
  refine PW_blk okT_isWord 3 rfl SpX_ok ?_
  simp only [wL0, wLc, true_and, w0, w4, ls00, ls0i, ls0r, ls0l, lsi, lsr, lsl, Option.map_some, w71]
  have key := lp_up (n := (wI i).length) (P := fun k => (∀ q, q < k → T (tk.2.1 + q) = nI ((wI i).getD q 0)) → PW 0 ev mT_isWord 28 [.ref 51, .ref (300 + i), .int (nI k)] [] σ K) ?_ ?_ 0 (Nat.zero_le _) (fun q h => absurd h (Nat.not_lt_zero q))
  · exact key
  · intro h
    refine PW_blk okT_isWord 4 rfl SpX_ok ?_
    simp only [wL0, wLc, true_and, w1, lg0, lgi, lgr, lgl, w2, w54_1, q40, q41, q42, q43, q44, Option.toList_some, Option.toList_none, List.cons_append, List.nil_append, w81]
    refine X_strlen hi ?_
    simp only [wL0, wLc, true_and, w1, lg0, lgi, lgr, lgl, w2, w54_1, q40, q41, q42, q43, q44, Option.toList_some, Option.toList_none, List.cons_append, List.nil_append, w81]
    refine b3N (nI_nlt (Nat.le_refl _) (by omega)) ?_
    refine PW_blk okT_isWord 8 rfl SpX_ok ?_
    simp only [wL0, wLc, true_and, w0, w85]
    exact ⟨Or.inr trivial, h1 ⟨c1, by omega, h⟩⟩
  · intro k hk2 ih h
    have hc := wI_ch i hi k hk2
    refine PW_blk okT_isWord 4 rfl SpX_ok ?_
    simp only [wL0, wLc, true_and, w1, lg0, lgi, lgr, lgl, w2, w54_1, q40, q41, q42, q43, q44, Option.toList_some, Option.toList_none, List.cons_append, List.nil_append, w81]
    refine X_strlen hi ?_
    simp only [wL0, wLc, true_and, w1, lg0, lgi, lgr, lgl, w2, w54_1, q40, q41, q42, q43, q44, Option.toList_some, Option.toList_none, List.cons_append, List.nil_append, w81]
    refine b3Y (nI_lt hk2 (by omega)) ?_
    refine PW_blk okT_isWord 5 rfl SpX_ok ?_
    simp only [wL0, wLc, true_and, w2, lg0, lgi, lgr, lgl, w33, kX51, w1, w11, w54_2, q40, q41, q42, q43, q44, Option.toList_some, Option.toList_none, List.cons_append, List.nil_append, xp_T_byteAt, w78, q1, q2, nI_add, byF_n hτ (show tk.2.1 + k < τ by omega), h52 _ (show tk.2.1 + k < 120 by omega)]
    refine X_charAt hi hk2 ?_
    simp only [wL0, wLc, true_and, w2, lg0, lgi, lgr, lgl, w33, kX51, w1, w11, w54_2, q40, q41, q42, q43, q44, Option.toList_some, Option.toList_none, List.cons_append, List.nil_append, xp_T_byteAt, w78]
    by_cases c3 : T (tk.2.1 + k) = nI ((wI i).getD k 0)
    · refine b2Y c3 ?_
      refine PW_blk okT_isWord 7 rfl SpX_ok ?_
      simp only [wL0, wLc, true_and, w7, lg0, lgi, lgr, lgl, ls00, ls0i, ls0r, ls0l, lsi, lsr, lsl, Option.map_some, w70]
      rw [show (1 : Int32) = nI 1 from rfl, nI_add]
      refine ih (fun q hq => ?_)
      by_cases e : q = k
      · subst e; exact c3
      · exact h q (by omega)
    · refine b2N c3 ?_
      refine PW_blk okT_isWord 6 rfl SpX_ok ?_
      simp only [wL0, wLc, true_and, w0, w85]
      exact ⟨Or.inl trivial, h0 (fun z => c3 (z.2.2 k hk2))⟩
theorem X_readWord {T : Nat → Int32} {τ b : Nat} (hτ : τ ≤ 120) (h52 : ∀ i, i < 120 → σ.1 52 i = T i) (q1 : σ.1 51 1 = nI τ) (q3 : σ.1 51 3 = nI b) (hb : b ≤ τ) (hk : ∀ q, q 1 = nI τ → q 2 = σ.1 51 2 → q 3 = nI (run isLt T τ b) → q 4 = 1 → K none (sr σ 51 q)) : Rn 0 ev mT_readWord [.ref 51] σ K := by
  refine Rn_V (by decide) rc3 rfl rfl ?_
  refine PW_blk okT_readWord 0 rfl SpX_ok ?_
  simp only [wL0, wLc, true_and, w2, lg0, lgi, lgr, lgl, w0, w36, kX51, w71, si_is]
  generalize he : run isLt T τ b = e at *
  have he1 : b ≤ e := by rw [← he]; exact run_le
  have he2 : e ≤ τ := by rw [← he]; exact run_le2 hb
  have hein : ∀ i, b ≤ i → i < e → i < τ ∧ isLt (T i) = true := fun i h1 h2 => run_in h1 (by rw [he]; exact h2)
  have heend : ¬ (e < τ ∧ isLt (T e) = true) := by rw [← he]; exact run_end
  have key := lp_up (n := e) (P := fun p => b ≤ p → ∀ q : Nat → Int32, q 1 = nI τ → q 2 = σ.1 51 2 → q 3 = nI p → q 4 = 1 → PW 0 ev mT_readWord 5 [.ref 51] [] (sr σ 51 q) K) ?_ ?_ b he1 (Nat.le_refl _) (upd (σ.1 51) 4 1) ?_ ?_ ?_ updS
  · exact key
  · intro _ q g1 g2 g3 g4
    have fin : PW 0 ev mT_readWord 43 [.ref 51] [] (sr σ 51 q) K := by
      refine PW_blk okT_readWord 4 rfl SpX_ok ?_
      simp only [wL0, w87]
      exact hk q g1 g2 g3 g4
    refine PW_blk okT_readWord 1 rfl SpX_ok ?_
    simp only [wL0, wLc, true_and, w2, lg0, lgi, lgr, lgl, w33, kX51, w81, sr1, g1, g3]
    rw [nI_lt_iff (by omega) (by omega)]
    by_cases c : e < τ
    · refine b3Y c ?_
      refine PW_blk okT_readWord 2 rfl SpX_ok ?_
      simp only [wL0, wLc, true_and, w2, lg0, lgi, lgr, lgl, w33, kX51, w54_2, q40, q41, q42, q43, q44, Option.toList_some, Option.toList_none, List.cons_append, List.nil_append, xp_T_byteAt, w55_1, xp_T_isLetter, w72, sr1, sr1n (show 52 ≠ 51 by decide), g1, g3, byF_n hτ c, h52 e (by omega)]
      exact bN (isLt_f (fun z => heend ⟨c, z⟩)) fin
    · exact b3N c fin
  · intro p hp ih hbp q g1 g2 g3 g4
    obtain ⟨p1, p2⟩ := hein p hbp hp
    refine PW_blk okT_readWord 1 rfl SpX_ok ?_
    simp only [wL0, wLc, true_and, w2, lg0, lgi, lgr, lgl, w33, kX51, w81, sr1, g1, g3]
    refine b3Y (nI_lt p1 (by omega)) ?_
    refine PW_blk okT_readWord 2 rfl SpX_ok ?_
    simp only [wL0, wLc, true_and, w2, lg0, lgi, lgr, lgl, w33, kX51, w54_2, q40, q41, q42, q43, q44, Option.toList_some, Option.toList_none, List.cons_append, List.nil_append, xp_T_byteAt, w55_1, xp_T_isLetter, w72, sr1, sr1n (show 52 ≠ 51 by decide), g1, g3, byF_n hτ p1, h52 p (by omega)]
    refine bY (isLt_y p2) ?_
    refine PW_blk okT_readWord 3 rfl SpX_ok ?_
    simp only [wL0, wLc, true_and, w2, lg0, lgi, lgr, lgl, w8i, w8r, w33, kX51, w0, w11, w36, w70, si_is, sr1, sr_sr, g3]
    rw [show (1 : Int32) = nI 1 from rfl, nI_add]
    exact ih (by omega) _ (by rw [updN (by decide)]; exact g1) (by rw [updN (by decide)]; exact g2) updS (by rw [updN (by decide)]; exact g4)
  · rw [updN (by decide)]; exact q1
  · rw [updN (by decide)]
  · rw [updN (by decide)]; exact q3
theorem X_readNumber {T : Nat → Int32} {τ b : Nat} (hτ : τ ≤ 120) (h52 : ∀ i, i < 120 → σ.1 52 i = T i) (q1 : σ.1 51 1 = nI τ) (q3 : σ.1 51 3 = nI b) (hb : b ≤ τ) (hk : ∀ q, q 1 = nI τ → q 2 = σ.1 51 2 → q 3 = nI (run isDg T τ b) → q 4 = 2 → q 5 = nI (nvU T b (run isDg T τ b - b)) → K none (sr σ 51 q)) : Rn 0 ev mT_readNumber [.ref 51] σ K := by
  refine Rn_V (by decide) rc3 rfl rfl ?_
  refine PW_blk okT_readNumber 0 rfl SpX_ok ?_
  simp only [wL0, wLc, true_and, w2, lg0, lgi, lgr, lgl, w0, w36, kX51, w71, si_is, sr1, sr_sr]
  generalize he : run isDg T τ b = e at *
  have he1 : b ≤ e := by rw [← he]; exact run_le
  have he2 : e ≤ τ := by rw [← he]; exact run_le2 hb
  have hein : ∀ i, b ≤ i → i < e → i < τ ∧ isDg (T i) = true := fun i h1 h2 => run_in h1 (by rw [he]; exact h2)
  have heend : ¬ (e < τ ∧ isDg (T e) = true) := by rw [← he]; exact run_end
  have key := lp_up (n := e) (P := fun p => b ≤ p → ∀ q : Nat → Int32, q 1 = nI τ → q 2 = σ.1 51 2 → q 3 = nI p → q 4 = 2 → q 5 = nI (nvU T b (p - b)) → PW 0 ev mT_readNumber 10 [.ref 51] [] (sr σ 51 q) K) ?_ ?_ b he1 (Nat.le_refl _) (upd (upd (σ.1 51) 4 2) 5 0) ?_ ?_ ?_ ?_ ?_
  · exact key
  · intro _ q g1 g2 g3 g4 g5
    have fin : PW 0 ev mT_readNumber 77 [.ref 51] [] (sr σ 51 q) K := by
      refine PW_blk okT_readNumber 4 rfl SpX_ok ?_
      simp only [wL0, w87]
      exact hk q g1 g2 g3 g4 g5
    refine PW_blk okT_readNumber 1 rfl SpX_ok ?_
    simp only [wL0, wLc, true_and, w2, lg0, lgi, lgr, lgl, w33, kX51, w81, sr1, g1, g3]
    rw [nI_lt_iff (by omega) (by omega)]
    by_cases c : e < τ
    · refine b3Y c ?_
      refine PW_blk okT_readNumber 2 rfl SpX_ok ?_
      simp only [wL0, wLc, true_and, w2, lg0, lgi, lgr, lgl, w33, kX51, w54_2, q40, q41, q42, q43, q44, Option.toList_some, Option.toList_none, List.cons_append, List.nil_append, xp_T_byteAt, w55_1, xp_T_isDigit, w72, sr1, sr1n (show 52 ≠ 51 by decide), g1, g3, byF_n hτ c, h52 e (by omega)]
      exact bN (isDg_f (fun z => heend ⟨c, z⟩)) fin
    · exact b3N c fin
  · intro p hp ih hbp q g1 g2 g3 g4 g5
    obtain ⟨p1, p2⟩ := hein p hbp hp
    obtain ⟨x, x1, x2, x3⟩ := isDg_n.mp p2
    have ex : dgN (T p) = x := by unfold dgN; rw [x3]; exact nI_clamp (by omega)
    have hnl := nvU_le T b (p - b)
    have env : nvU T b (p + 1 - b) = if 10 * nvU T b (p - b) + (x - 48) < 1024 then 10 * nvU T b (p - b) + (x - 48) else 1024 := by
      rw [show p + 1 - b = (p - b) + 1 by omega]
      conv => lhs; unfold nvU
      rw [show b + (p - b) = p by omega, ex]
    refine PW_blk okT_readNumber 1 rfl SpX_ok ?_
    simp only [wL0, wLc, true_and, w2, lg0, lgi, lgr, lgl, w33, kX51, w81, sr1, g1, g3]
    refine b3Y (nI_lt p1 (by omega)) ?_
    refine PW_blk okT_readNumber 2 rfl SpX_ok ?_
    simp only [wL0, wLc, true_and, w2, lg0, lgi, lgr, lgl, w33, kX51, w54_2, q40, q41, q42, q43, q44, Option.toList_some, Option.toList_none, List.cons_append, List.nil_append, xp_T_byteAt, w55_1, xp_T_isDigit, w72, sr1, sr1n (show 52 ≠ 51 by decide), g1, g3, byF_n hτ p1, h52 p (by omega)]
    refine bY (isDg_y p2) ?_
    have e1 : (10 : Int32) * nI (nvU T b (p - b)) + nI x - 48 = nI (10 * nvU T b (p - b) + (x - 48)) := by
      rw [show (10 : Int32) = nI 10 from rfl, pk_mul, nI_add, show (48 : Int32) = nI 48 from rfl, pk_sub (by omega), show 10 * nvU T b (p - b) + x - 48 = 10 * nvU T b (p - b) + (x - 48) by omega]
    have e2 : (if (1024 : Int32) < nI (10 * nvU T b (p - b) + (x - 48)) then (1024 : Int32) else nI (10 * nvU T b (p - b) + (x - 48))) = nI (nvU T b (p + 1 - b)) := by
      rw [env]
      by_cases z : 1024 < 10 * nvU T b (p - b) + (x - 48)
      · rw [if_pos (show (1024 : Int32) < nI (10 * nvU T b (p - b) + (x - 48)) from nI_lt z (by omega)), if_neg (by omega)]
        rfl
      · rw [if_neg (show ¬ (1024 : Int32) < nI (10 * nvU T b (p - b) + (x - 48)) from nI_nlt (a := 1024) (by omega) (by decide))]
        by_cases z2 : 10 * nvU T b (p - b) + (x - 48) < 1024
        · rw [if_pos z2]
        · rw [if_neg z2, show 10 * nvU T b (p - b) + (x - 48) = 1024 by omega]
    refine PW_blk okT_readNumber 3 rfl SpX_ok ?_
    simp only [wL0, wLc, true_and, w2, lg0, lgi, lgr, lgl, w0, w33, kX51, w13, w54_2, q40, q41, q42, q43, q44, Option.toList_some, Option.toList_none, List.cons_append, List.nil_append, xp_T_byteAt, w11, w12, w57, w36, w8i, w8r, w70, si_is, sr1, sr_sr, sr1n (show 52 ≠ 51 by decide), g1, g3, g5, byF_n hτ p1, h52 p (by omega), x3, e1, e2, updI]
    simp only [show ¬ ((3 : Nat) = 5) by decide, if_false]
    rw [show (1 : Int32) = nI 1 from rfl, nI_add]
    refine ih (by omega) _ ?_ ?_ updS ?_ ?_
    · rw [updN (by decide), updN (by decide)]; exact g1
    · rw [updN (by decide), updN (by decide)]; exact g2
    · rw [updN (by decide), updN (by decide)]; exact g4
    · rw [updN (by decide), updS]
  · rw [updN (by decide), updN (by decide)]; exact q1
  · rw [updN (by decide), updN (by decide)]
  · rw [updN (by decide), updN (by decide)]; exact q3
  · rw [updN (by decide), updS]
  · rw [updS, Nat.sub_self]; rfl
theorem X_nextToken {T : Nat → Int32} {τ p : Nat} (hτ : τ ≤ 120) (h52 : ∀ i, i < 120 → σ.1 52 i = T i) (q1 : σ.1 51 1 = nI τ) (q3 : σ.1 51 3 = nI p) (hp : p ≤ τ) (hk : ∀ q, XK q τ (tok T τ p) → K none (sr σ 51 q)) : Rn 0 ev mT_nextToken [.ref 51] σ K := by
  refine Rn_V (by decide) rc3 rfl rfl ?_
  unfold tok at hk
  refine PW_blk okT_nextToken 0 rfl SpX_ok ?_
  simp only [wL0, wLc, true_and, w2, lg0, lgi, lgr, lgl, w33, kX51, w36, w71, si_is, q3]
  generalize hb : run isSp T τ p = b at *
  have hb1 : p ≤ b := by rw [← hb]; exact run_le
  have hb2 : b ≤ τ := by rw [← hb]; exact run_le2 hp
  have hbin : ∀ i, p ≤ i → i < b → i < τ ∧ isSp (T i) = true := fun i h1 h2 => run_in h1 (by rw [hb]; exact h2)
  have hbend : ¬ (b < τ ∧ isSp (T b) = true) := by rw [← hb]; exact run_end
  have main : ∀ q : Nat → Int32, q 1 = nI τ → q 2 = nI b → PW 0 ev mT_nextToken 45 [.ref 51] [] (sr σ 51 q) K := by
    intro q g1 g2
    unfold tokB at hk
    have done : ∀ q, (∀ tk, (if τ ≤ b then ((0, b, b, 0) : Tk) else if isLt (T b) = true then (1, b, run isLt T τ b, 0) else if isDg (T b) = true then (if 1023 < nvU T b (run isDg T τ b - b) then 4 else 2, b, run isDg T τ b, nvU T b (run isDg T τ b - b)) else (if T b = 59 then 3 else 4, b, b + 1, 0)) = tk → XK q τ tk) → PW 0 ev mT_nextToken 146 [.ref 51] [] (sr σ 51 q) K := by
      intro q h
      refine PW_blk okT_nextToken 14 rfl SpX_ok ?_
      simp only [wL0, w87]
      exact hk q (h _ rfl)
    have g3 : ∀ x, upd q 3 x 1 = nI τ ∧ upd q 3 x 2 = nI b := fun x => ⟨by rw [updN (by decide)]; exact g1, by rw [updN (by decide)]; exact g2⟩
    refine PW_blk okT_nextToken 4 rfl SpX_ok ?_
    simp only [wL0, wLc, true_and, w2, lg0, lgi, lgr, lgl, w33, kX51, w36, w80, si_is, sr1, sr_sr, g1, g2, (g3 (nI b)).1, (g3 (nI b)).2]
    rw [nI_lt_iff (by omega) (by omega)]
    by_cases c0 : b < τ
    rotate_left
    · refine b2N c0 ?_
      refine PW_blk okT_nextToken 5 rfl SpX_ok ?_
      simp only [wL0, wLc, true_and, w2, lg0, lgi, lgr, lgl, w0, w36, kX51, w70, si_is, sr1, sr_sr]
      refine done _ (fun tk e => ?_)
      rw [if_pos (by omega)] at e
      subst e
      refine ⟨?_, ?_, ?_, fun _ => ?_, fun z => absurd z (show ¬ (0 : Nat) = 2 by decide), fun z => absurd z (show ¬ (0 : Nat) = 4 by decide)⟩
      · rw [updN (by decide), updN (by decide)]; exact g1
      · rw [updN (by decide), updN (by decide)]; exact g2
      · rw [updN (by decide), updS]
      · rw [updS]; rfl
    refine b2Y c0 ?_
    refine PW_blk okT_nextToken 6 rfl SpX_ok ?_
    simp only [wL0, wLc, true_and, w2, lg0, lgi, lgr, lgl, w33, kX51, w54_2, q40, q41, q42, q43, q44, Option.toList_some, Option.toList_none, List.cons_append, List.nil_append, xp_T_byteAt, w55_1, xp_T_isLetter, w72, sr1, sr1n (show 52 ≠ 51 by decide), (g3 (nI b)).1, (g3 (nI b)).2, byF_n hτ c0, h52 b (by omega)]
    by_cases c1 : isLt (T b) = true
    · refine bY (isLt_y c1) ?_
      refine PW_blk okT_nextToken 7 rfl SpX_ok ?_
      simp only [wL0, wLc, true_and, w2, lg0, lgi, lgr, lgl, w54_1, q40, q41, q42, q43, q44, Option.toList_some, Option.toList_none, List.cons_append, List.nil_append, w70]
      refine X_readWord (T := T) (τ := τ) (b := b) hτ (by rw [sr1n (by decide)]; exact h52) (by rw [sr1]; exact (g3 _).1) (by rw [sr1, updS]) hb2 (fun q' h1 h2 h3 h4 => ?_)
      simp only [wL0, wLc, true_and, w2, lg0, lgi, lgr, lgl, w54_1, q40, q41, q42, q43, q44, Option.toList_some, Option.toList_none, List.cons_append, List.nil_append, w70, sr_sr]
      refine done _ (fun tk e => ?_)
      rw [if_neg (by omega), if_pos c1] at e
      subst e
      refine ⟨h1, ?_, h3, fun _ => h4, fun z => absurd z (show ¬ (1 : Nat) = 2 by decide), fun z => absurd z (show ¬ (1 : Nat) = 4 by decide)⟩
      rw [h2, sr1]; exact (g3 _).2
    refine bN (isLt_f c1) ?_
    refine PW_blk okT_nextToken 8 rfl SpX_ok ?_
    simp only [wL0, wLc, true_and, w2, lg0, lgi, lgr, lgl, w33, kX51, w54_2, q40, q41, q42, q43, q44, Option.toList_some, Option.toList_none, List.cons_append, List.nil_append, xp_T_byteAt, w55_1, xp_T_isDigit, w72, sr1, sr1n (show 52 ≠ 51 by decide), (g3 (nI b)).1, (g3 (nI b)).2, byF_n hτ c0, h52 b (by omega)]
    by_cases c2 : isDg (T b) = true
    · refine bY (isDg_y c2) ?_
      refine PW_blk okT_nextToken 9 rfl SpX_ok ?_
      simp only [wL0, wLc, true_and, w2, lg0, lgi, lgr, lgl, w54_1, q40, q41, q42, q43, q44, Option.toList_some, Option.toList_none, List.cons_append, List.nil_append, w70]
      refine X_readNumber (T := T) (τ := τ) (b := b) hτ (by rw [sr1n (by decide)]; exact h52) (by rw [sr1]; exact (g3 _).1) (by rw [sr1, updS]) hb2 (fun q' h1 h2 h3 h4 h5 => ?_)
      simp only [wL0, wLc, true_and, w2, lg0, lgi, lgr, lgl, w54_1, q40, q41, q42, q43, q44, Option.toList_some, Option.toList_none, List.cons_append, List.nil_append, w70, sr_sr]
      refine done _ (fun tk e => ?_)
      rw [if_neg (by omega), if_neg c1, if_pos c2] at e
      have hnl := nvU_le T b (run isDg T τ b - b)
      by_cases c3 : 1023 < nvU T b (run isDg T τ b - b)
      · rw [if_pos c3] at e
        subst e
        refine ⟨h1, by rw [h2, sr1]; exact (g3 _).2, h3, fun z => absurd rfl z, fun z => absurd z (show ¬ (4 : Nat) = 2 by decide), fun _ => Or.inr ⟨h4, ?_⟩⟩
        rw [h5, show nvU T b (run isDg T τ b - b) = 1024 by omega]
        rfl
      · rw [if_neg c3] at e
        subst e
        exact ⟨h1, by rw [h2, sr1]; exact (g3 _).2, h3, fun _ => h4, fun _ => h5, fun z => absurd z (show ¬ (2 : Nat) = 4 by decide)⟩
    refine bN (isDg_f c2) ?_
    have fin : ∀ n : Nat, n = (if T b = 59 then 3 else 4) → PW 0 ev mT_nextToken 133 [.ref 51] [.int (nI n), .ref 51] (sr σ 51 (upd q 3 (nI b))) K := by
      intro n hn
      refine PW_blk okT_nextToken 13 rfl SpX_ok ?_
      simp only [wL0, wLc, true_and, w36, kX51, w2, lg0, lgi, lgr, lgl, w33, w0, w11, w71, si_is, sr1, sr_sr, (g3 (nI b)).2, updI]
      simp only [show ¬ (2 = 4) by decide, show ¬ (2 = 3) by decide, if_false, g2]
      rw [show (1 : Int32) = nI 1 from rfl, nI_add]
      refine done _ (fun tk e => ?_)
      rw [if_neg (by omega), if_neg c1, if_neg c2, ← hn] at e
      subst e
      have hn2 : n ≠ 2 := by rw [hn]; split <;> decide
      refine ⟨?_, ?_, ?_, fun _ => ?_, fun z => absurd z hn2, fun z => Or.inl ?_⟩
      · rw [updN (by decide), updN (by decide), updN (by decide)]; exact g1
      · rw [updN (by decide), updN (by decide), updN (by decide)]; exact g2
      · rw [updS]
      · rw [updN (by decide), updS]
      · have z : n = 4 := z
        rw [updN (by decide), updS, z]; rfl
    refine PW_blk okT_nextToken 10 rfl SpX_ok ?_
    simp only [wL0, wLc, true_and, w2, lg0, lgi, lgr, lgl, w33, kX51, w54_2, q40, q41, q42, q43, q44, Option.toList_some, Option.toList_none, List.cons_append, List.nil_append, xp_T_byteAt, w0, w79, sr1, sr1n (show 52 ≠ 51 by decide), (g3 (nI b)).1, (g3 (nI b)).2, byF_n hτ c0, h52 b (by omega)]
    by_cases c4 : T b = 59
    · refine b3Y c4 ?_
      refine PW_blk okT_nextToken 11 rfl SpX_ok ?_
      simp only [wL0, wLc, true_and, w0, w70]
      exact fin 3 (by rw [if_pos c4])
    · refine b3N c4 ?_
      refine PW_blk okT_nextToken 12 rfl SpX_ok ?_
      simp only [wL0, wLc, true_and, w0, w71]
      exact fin 4 (by rw [if_neg c4])
  have key := lp_up (n := b) (P := fun x => p ≤ x → ∀ q : Nat → Int32, q 1 = nI τ → q 2 = nI x → PW 0 ev mT_nextToken 8 [.ref 51] [] (sr σ 51 q) K) ?_ ?_ p hb1 (Nat.le_refl _) (upd (σ.1 51) 2 (nI p)) (by rw [updN (by decide)]; exact q1) updS
  · exact key
  · intro _ q g1 g2
    refine PW_blk okT_nextToken 1 rfl SpX_ok ?_
    simp only [wL0, wLc, true_and, w2, lg0, lgi, lgr, lgl, w33, kX51, w81, sr1, g1, g2]
    rw [nI_lt_iff (by omega) (by omega)]
    by_cases c : b < τ
    · refine b3Y c ?_
      refine PW_blk okT_nextToken 2 rfl SpX_ok ?_
      simp only [wL0, wLc, true_and, w2, lg0, lgi, lgr, lgl, w33, kX51, w54_2, q40, q41, q42, q43, q44, Option.toList_some, Option.toList_none, List.cons_append, List.nil_append, xp_T_byteAt, w0, w79, sr1, sr1n (show 52 ≠ 51 by decide), g1, g2, byF_n hτ c, h52 b (by omega)]
      exact b3N (fun z => hbend ⟨c, isSp_n.mpr z⟩) (main q g1 g2)
    · exact b3N c (main q g1 g2)
  · intro x hx ih hpx q g1 g2
    obtain ⟨x1, x2⟩ := hbin x hpx hx
    refine PW_blk okT_nextToken 1 rfl SpX_ok ?_
    simp only [wL0, wLc, true_and, w2, lg0, lgi, lgr, lgl, w33, kX51, w81, sr1, g1, g2]
    refine b3Y (nI_lt x1 (by omega)) ?_
    refine PW_blk okT_nextToken 2 rfl SpX_ok ?_
    simp only [wL0, wLc, true_and, w2, lg0, lgi, lgr, lgl, w33, kX51, w54_2, q40, q41, q42, q43, q44, Option.toList_some, Option.toList_none, List.cons_append, List.nil_append, xp_T_byteAt, w0, w79, sr1, sr1n (show 52 ≠ 51 by decide), g1, g2, byF_n hτ x1, h52 x (by omega)]
    refine b3Y (isSp_n.mp x2) ?_
    refine PW_blk okT_nextToken 3 rfl SpX_ok ?_
    simp only [wL0, wLc, true_and, w2, lg0, lgi, lgr, lgl, w8i, w8r, w33, kX51, w0, w11, w36, w70, si_is, sr1, sr_sr, g2]
    rw [show (1 : Int32) = nI 1 from rfl, nI_add]
    exact ih (by omega) _ (by rw [updN (by decide)]; exact g1) updS
end TX
