/-! the two objects answer alike, call by call: spots, sheets, images, counts, the text -/
section PP
variable {eX eM : EV} {σ σm : St2}
theorem P_as {a b : Int32} (h : Rel σ σm) : Pr eX eM mX_as mM_as [.int a, .int b] σ σm := by
  have hI := h.1.1
  have hn := hI.1.2
  by_cases n : rgI a 0 9 ∧ rgI b 0 6
  rotate_left
  · have n0 : ∀ {i d : Nat}, i ≤ 9 → a = nI i → d ≤ 6 → b = nI d → False := fun q e q2 e2 => n ⟨⟨_, Nat.zero_le _, q, e⟩, ⟨_, Nat.zero_le _, q2, e2⟩⟩
    exact X_as h.1.2.2 hI (fun _ => ⟨_, rfl, R_as hI (fun _ => ⟨rfl, Rel_no h 0 (by decide) _ rfl⟩) (fun i q e f => absurd ⟨⟨i, Nat.zero_le _, q, e⟩, f⟩ n) (fun i k d q e q2 e2 => absurd e2 (n0 q e q2)) (fun i k d q e q2 e2 => absurd e2 (n0 q e q2))⟩) (fun i q e f => absurd ⟨⟨i, Nat.zero_le _, q, e⟩, f⟩ n) (fun i k d q e q2 e2 => absurd e2 (n0 q e q2)) (fun i k d q e q2 e2 => absurd e2 (n0 q e q2))
  have m1 : ∀ {k : Nat}, k < nv (σm.1 1) 3 → (-1 : Int32) = nI k → False := fun {k} hk e => by
    have : (-1 : Int32).toInt = (k : Int) := by rw [e]; exact nI_toInt (by omega)
    rw [show (-1 : Int32).toInt = -1 by decide] at this
    omega
  refine X_as h.1.2.2 hI (fun z => absurd n z) (fun i q e f s1 => ⟨_, rfl, R_as hI (fun z => absurd n z) (fun _ _ _ _ _ => ⟨rfl, Rel_no h 5 (by decide) _ rfl⟩) (fun i2 k2 d2 q2 e2 q3 e3 k3 s2 => ?_) (fun i2 k2 d2 q2 e2 q3 e3 k3 s2 => ?_)⟩)
    (fun i k d q e q1 e1 k1 s1 t1 => ⟨_, rfl, R_as hI (fun z => absurd n z) (fun i2 q2 e2 _ s2 => ?_) (fun i2 k2 d2 q2 e2 q3 e3 k3 s2 t2 => ?_) (fun i2 k2 d2 q2 e2 q3 e3 k3 s2 t2 => ?_)⟩)
    (fun i k d q e q1 e1 k1 s1 t1 => ⟨_, rfl, R_as hI (fun z => absurd n z) (fun i2 q2 e2 _ s2 => ?_) (fun i2 k2 d2 q2 e2 q3 e3 k3 s2 t2 => ?_) (fun i2 k2 d2 q2 e2 q3 e3 k3 s2 t2 => ⟨rfl, Rel_no h 2 (by decide) _ rfl⟩)⟩)
  all_goals obtain rfl : i2 = i := nI_i (e2.symm.trans e) (by omega) (by omega)
  · exact (m1 k3 (s1.symm.trans s2)).elim
  · exact (m1 k3 (s1.symm.trans s2)).elim
  · exact (m1 k1 (s2.symm.trans s1)).elim
  · obtain rfl : k2 = k := nI_i (s2.symm.trans s1) (by omega) (by omega)
    exact ⟨rfl, h⟩
  · obtain rfl : k2 = k := nI_i (s2.symm.trans s1) (by omega) (by omega)
    obtain rfl : d2 = d := nI_i (e3.symm.trans e1) (by omega) (by omega)
    rw [t1] at t2; cases t2
  · exact (m1 k1 (s2.symm.trans s1)).elim
  · obtain rfl : k2 = k := nI_i (s2.symm.trans s1) (by omega) (by omega)
    obtain rfl : d2 = d := nI_i (e3.symm.trans e1) (by omega) (by omega)
    rw [t1] at t2; cases t2
theorem P_sheet {a b c : Int32} (h : Rel σ σm) : Pr eX eM mX_sheet mM_sheet [.int a, .int b, .int c] σ σm := by
  have hS := h.2.2.2.2.1
  by_cases n : rgI a 0 3 ∧ (b = 0 ∨ b = 8 ∨ b = 16 ∨ b = 32)
  rotate_left
  · exact X_sheet hS.2 (fun _ => ⟨_, rfl, R_sheet (fun _ => ⟨rfl, Rel_no h 0 (by decide) _ rfl⟩) (fun z z2 => absurd ⟨z, z2⟩ n) (fun z z2 => absurd ⟨z, z2⟩ n) (fun j m z z1 z2 => absurd ⟨⟨j, Nat.zero_le _, z, z1⟩, z2⟩ n)⟩) (fun z z2 => absurd ⟨z, z2⟩ n) (fun z z2 => absurd ⟨z, z2⟩ n) (fun j m z z1 z2 => absurd ⟨⟨j, Nat.zero_le _, z, z1⟩, z2⟩ n)
  have lo : ∀ {m : Nat}, m ≤ 40 → c = nI m → ¬ c < 0 := fun {m} hm e z => by rw [e] at z; exact nI_nlt (a := m) (b := 0) (Nat.zero_le _) (by omega) z
  have hi : ∀ {m : Nat}, m ≤ 40 → c = nI m → ¬ 40 < c := fun {m} hm e z => by rw [e] at z; exact nI_nlt (a := 40) hm (by decide) z
  have lh : c < 0 → ¬ 40 < c := fun z z2 => by
    have a1 := Int32.lt_iff_toInt_lt.mp z
    have a2 := Int32.lt_iff_toInt_lt.mp z2
    rw [show (0 : Int32).toInt = 0 by decide] at a1
    rw [show (40 : Int32).toInt = 40 by decide] at a2
    omega
  refine X_sheet hS.2 (fun z => absurd n z) (fun _ _ f => ⟨_, rfl, R_sheet (fun z => absurd n z) (fun _ _ _ => ⟨rfl, Rel_no h 6 (by decide) _ rfl⟩) (fun _ _ g => absurd g (lh f)) (fun j m _ _ _ z e => absurd f (lo z e))⟩)
    (fun _ _ f => ⟨_, rfl, R_sheet (fun z => absurd n z) (fun _ _ g => absurd f (lh g)) (fun _ _ _ => ⟨rfl, Rel_no h 0 (by decide) _ rfl⟩) (fun j m _ _ _ z e => absurd f (hi z e))⟩)
    (fun j m q1 e1 w q2 e2 τ d x => ⟨_, rfl, R_sheet (fun z => absurd n z) (fun _ _ g => absurd g (lo q2 e2)) (fun _ _ g => absurd g (hi q2 e2)) (fun j2 m2 q3 e3 _ q4 e4 => ?_)⟩)
  obtain rfl : j2 = j := nI_i (e3.symm.trans e1) (by omega) (by omega)
  obtain rfl : m2 = m := nI_i (e4.symm.trans e2) (by omega) (by omega)
  refine ⟨rfl, Rel_S h d (fun i h1 h2 h3 h4 => by rw [sr1n h3, sr1n h2, sr1n h1]) (by rw [sr1n (by decide), sr1n (by decide), sr1]) (by rw [sr1n (by decide), sr1]) sr1 (fun i hi => ?_) x⟩
  rw [updI]
  by_cases e : i = j2
  · subst e
    rw [if_pos rfl]
    refine ⟨w, ?_⟩
    by_cases eb : b = 0
    · rw [if_pos eb]; exact rg_of (n := 0) updS (by omega)
    · rw [if_neg eb]; exact rg_of (n := m2) updS (by omega)
  · rw [if_neg e]
    exact ⟨(hS.1 i hi).1, rg_ne e (hS.1 i hi).2⟩
theorem P_write {a b c : Int32} (h : Rel σ σm) : Pr eX eM mX_write mM_write [.int a, .int b, .int c] σ σm := by
  have hS := h.2.2.2.2.1
  rcases or_R a 0 3 with n | ⟨m, -, hm, rfl⟩
  · have n0 : ∀ j, j < 4 → a ≠ nI j := fun j hj z => n ⟨j, by omega, by omega, z⟩
    exact X_write hS.2 hS.1 (fun _ => ⟨_, rfl, R_write hS.1 (fun _ => ⟨rfl, Rel_no h 0 (by decide) _ rfl⟩) (fun j q z => absurd z (n0 j q)) (fun j q z => absurd z (n0 j q)) (fun j _ q z => absurd z (n0 j q))⟩) (fun j q z => absurd z (n0 j q)) (fun j q z => absurd z (n0 j q)) (fun j _ q z => absurd z (n0 j q))
  have y : rgI (nI m) 0 3 := ⟨m, Nat.zero_le _, hm, rfl⟩
  have un : ∀ {j : Nat}, j < 4 → nI m = nI j → j = m := fun hj e => (nI_i e (by omega) (by omega)).symm
  refine X_write hS.2 hS.1 (fun z => absurd y z)
    (fun j q e f => ⟨_, rfl, R_write hS.1 (fun z => absurd y z) (fun _ _ _ _ => ⟨rfl, Rel_no h 5 (by decide) _ rfl⟩) (fun j2 q2 e2 g => ?_) (fun j2 _ q2 e2 g => ?_)⟩)
    (fun j q e f f2 => ⟨_, rfl, R_write hS.1 (fun z => absurd y z) (fun j2 q2 e2 g => ?_) (fun _ _ _ _ _ => ⟨rfl, Rel_no h 0 (by decide) _ rfl⟩) (fun j2 p q2 e2 g g1 g2 => ?_)⟩)
    (fun j p q e f f1 f2 τ d x => ⟨_, rfl, R_write hS.1 (fun z => absurd y z) (fun j2 q2 e2 g => ?_) (fun j2 q2 e2 g g2 => ?_) (fun j2 p2 q2 e2 g g1 g2 => ?_)⟩)
  all_goals obtain rfl := un q e
  all_goals obtain rfl := un q2 e2
  · exact absurd f g
  · exact absurd f g
  · exact absurd g f
  · exact absurd ⟨p, g1, g2⟩ f2
  · exact absurd g f
  · exact absurd ⟨p, f1, f2⟩ g2
  · have hN := (hS.1 _ q).2.2
    obtain rfl : p2 = p := nI_i (g2.symm.trans f2) (by omega) (by omega)
    exact ⟨rfl, Rel_S h d (fun i h1 h2 h3 h4 => by rw [sr1n h3]) (sr1n (by decide)) (sr1n (by decide)) sr1 hS.1 x⟩
theorem P_load {a : Int32} (h : Rel σ σm) : Pr eX eM mX_load mM_load [.int a] σ σm := by
  have hI := h.1.1
  have hS := h.2.2.2.2.1
  rcases or_R a 0 3 with n | ⟨m, -, hm, rfl⟩
  · have n0 : ∀ j, j < 4 → a ≠ nI j := fun j hj z => n ⟨j, by omega, by omega, z⟩
    exact X_load h.1.2.2 hI hS.2 hS.1 (fun _ => ⟨_, rfl, R_load hI hS.1 (fun _ => ⟨rfl, Rel_no h 0 (by decide) _ rfl⟩) (fun j q z => absurd z (n0 j q)) (fun j _ q z => absurd z (n0 j q))⟩) (fun j q z => absurd z (n0 j q)) (fun j _ q z => absurd z (n0 j q))
  have y : rgI (nI m) 0 3 := ⟨m, Nat.zero_le _, hm, rfl⟩
  have un : ∀ {j : Nat}, j < 4 → nI m = nI j → j = m := fun hj e => (nI_i e (by omega) (by omega)).symm
  refine X_load h.1.2.2 hI hS.2 hS.1 (fun z => absurd y z)
    (fun j q e f => ⟨_, rfl, R_load hI hS.1 (fun z => absurd y z) (fun _ _ _ _ => ⟨rfl, Rel_no h 5 (by decide) _ rfl⟩) (fun j2 _ q2 e2 g => ?_)⟩)
    (fun j c q e f f1 f2 τ d x => ⟨_, rfl, R_load hI hS.1 (fun z => absurd y z) (fun j2 q2 e2 g => ?_) (fun j2 c2 q2 e2 g g1 g2 => ?_)⟩)
  all_goals obtain rfl := un q e
  all_goals obtain rfl := un q2 e2
  · exact absurd f g
  · exact absurd g f
  · obtain rfl : c2 = c := by
      rcases Nat.lt_trichotomy c2 c with z | z | z
      · exact absurd (f1 _ z) g2
      · exact z
      · exact absurd (g1 _ z) f2
    obtain ⟨i1, i2, -⟩ := Inv_ld hI c2 f1
    exact ⟨rfl, Rel_C h d x i1 (by rw [i2]; exact h.1.2.1)⟩
theorem P_judge {a : Int32} (h : Rel σ σm) : Pr eX eM mX_judge mM_judge [.int a] σ σm := by
  have hI := h.1.1
  have hS := h.2.2.2.2.1
  rcases or_R a 0 3 with n | ⟨m, -, hm, rfl⟩
  · have n0 : ∀ j, j < 4 → a ≠ nI j := fun j hj z => n ⟨j, by omega, by omega, z⟩
    exact X_judge h.1.2.2 hI hS.2 hS.1 (fun _ => ⟨_, rfl, R_judge hI hS.1 (fun _ => ⟨rfl, Rel_no h 0 (by decide) _ rfl⟩) (fun j q z => absurd z (n0 j q)) (fun j _ q z => absurd z (n0 j q))⟩) (fun j q z => absurd z (n0 j q)) (fun j _ q z => absurd z (n0 j q))
  have y : rgI (nI m) 0 3 := ⟨m, Nat.zero_le _, hm, rfl⟩
  have un : ∀ {j : Nat}, j < 4 → nI m = nI j → j = m := fun hj e => (nI_i e (by omega) (by omega)).symm
  refine X_judge h.1.2.2 hI hS.2 hS.1 (fun z => absurd y z)
    (fun j q e f => ⟨_, rfl, R_judge hI hS.1 (fun z => absurd y z) (fun _ _ _ _ => ⟨rfl, Rel_no h 5 (by decide) _ rfl⟩) (fun j2 _ q2 e2 g => ?_)⟩)
    (fun j c q e f f1 f2 => ⟨_, rfl, R_judge hI hS.1 (fun z => absurd y z) (fun j2 q2 e2 g => ?_) (fun j2 c2 q2 e2 g g1 g2 => ?_)⟩)
  all_goals obtain rfl := un q e
  all_goals obtain rfl := un q2 e2
  · exact absurd f g
  · exact absurd g f
  · obtain rfl : c2 = c := by
      rcases Nat.lt_trichotomy c2 c with z | z | z
      · exact absurd (f1 _ z) g2
      · exact z
      · exact absurd (g1 _ z) f2
    exact ⟨rfl, h⟩
theorem P_copy {a b c d n : Int32} (h : Rel σ σm) : Pr eX eM mX_copy mM_copy [.int a, .int b, .int c, .int d, .int n] σ σm := by
  have hS := h.2.2.2.2.1
  by_cases hh : rgI a 0 3 ∧ rgI c 0 3
  rotate_left
  · have n0 : ∀ {j l : Nat}, j < 4 → l < 4 → a = nI j → c = nI l → False := fun q q2 e e2 => hh ⟨⟨_, Nat.zero_le _, by omega, e⟩, ⟨_, Nat.zero_le _, by omega, e2⟩⟩
    exact X_copy hS.2 hS.1 (fun _ => ⟨_, rfl, R_copy hS.1 (fun _ => ⟨rfl, Rel_no h 0 (by decide) _ rfl⟩) (fun j l q q2 e e2 => absurd e2 (n0 q q2 e)) (fun j l q q2 e e2 => absurd e2 (n0 q q2 e)) (fun j l q q2 e e2 => absurd e2 (n0 q q2 e)) (fun j l _ _ _ q q2 e e2 => absurd e2 (n0 q q2 e))⟩) (fun j l q q2 e e2 => absurd e2 (n0 q q2 e)) (fun j l q q2 e e2 => absurd e2 (n0 q q2 e)) (fun j l q q2 e e2 => absurd e2 (n0 q q2 e)) (fun j l _ _ _ q q2 e e2 => absurd e2 (n0 q q2 e))
  refine X_copy hS.2 hS.1 (fun z => absurd hh z)
    (fun j l q r e f g => ⟨_, rfl, R_copy hS.1 (fun z => absurd hh z) (fun _ _ _ _ _ _ _ => ⟨rfl, Rel_no h 5 (by decide) _ rfl⟩) (fun j2 l2 q2 r2 e2 f2 g2 => ?_) (fun j2 l2 q2 r2 e2 f2 g2 => ?_) (fun j2 l2 _ _ _ q2 r2 e2 f2 g2 => ?_)⟩)
    (fun j l q r e f g w => ⟨_, rfl, R_copy hS.1 (fun z => absurd hh z) (fun j2 l2 q2 r2 e2 f2 g2 => ?_) (fun _ _ _ _ _ _ _ _ => ⟨rfl, Rel_no h 2 (by decide) _ rfl⟩) (fun j2 l2 q2 r2 e2 f2 g2 w2 => ?_) (fun j2 l2 _ _ _ q2 r2 e2 f2 g2 w2 => ?_)⟩)
    (fun j l q r e f g w v => ⟨_, rfl, R_copy hS.1 (fun z => absurd hh z) (fun j2 l2 q2 r2 e2 f2 g2 => ?_) (fun j2 l2 q2 r2 e2 f2 g2 w2 => ?_) (fun _ _ _ _ _ _ _ _ _ => ⟨rfl, Rel_no h 0 (by decide) _ rfl⟩) (fun j2 l2 p2 s2 t2 q2 r2 e2 f2 g2 w2 x1 x2 x3 x4 x5 => ?_)⟩)
    (fun j l p s t q r e f g w y1 y2 y3 y4 y5 τ fr x => ⟨_, rfl, R_copy hS.1 (fun z => absurd hh z) (fun j2 l2 q2 r2 e2 f2 g2 => ?_) (fun j2 l2 q2 r2 e2 f2 g2 w2 => ?_) (fun j2 l2 q2 r2 e2 f2 g2 w2 v2 => ?_) (fun j2 l2 p2 s2 t2 q2 r2 e2 f2 g2 w2 x1 x2 x3 x4 x5 rr => ?_)⟩)
  all_goals obtain rfl : j2 = j := nI_i (e2.symm.trans e) (by omega) (by omega)
  all_goals obtain rfl : l2 = l := nI_i (f2.symm.trans f) (by omega) (by omega)
  · exact absurd g g2
  · exact absurd g g2
  · exact absurd g g2
  · exact absurd g2 g
  · exact absurd w2 w
  · exact absurd w2 w
  · exact absurd g2 g
  · exact absurd w w2
  · exact absurd ⟨p2, s2, t2, x1, x2, x3, x4, x5⟩ v
  · exact absurd g2 g
  · exact absurd w w2
  · exact absurd ⟨p, s, t, y1, y2, y3, y4, y5⟩ v2
  · have hN := (hS.1 _ q).2.2
    have hN2 := (hS.1 _ r).2.2
    obtain rfl : p2 = p := nI_i (x1.symm.trans y1) (by omega) (by omega)
    obtain rfl : s2 = s := nI_i (x2.symm.trans y2) (by omega) (by omega)
    obtain rfl : t2 = t := nI_i (x3.symm.trans y3) (by omega) (by omega)
    exact ⟨rfl, Rel_S h fr (fun i h1 h2 h3 h4 => by rw [sr1n h3, sr1n h4]) (by rw [sr1n (by decide), sr1n (by decide)]) (by rw [sr1n (by decide), sr1n (by decide)]) sr1 hS.1 x⟩
theorem P_image (h : Rel σ σm) : Pr eX eM mX_image mM_image [] σ σm := by
  have hI := h.1.1
  have ef : ∀ i, i < 120 → fa_fill (σm.1 1) (σm.1 2) 120 i = σm.1 1 i := fun i hi => fa_fill_in hi
  refine X_image h.1.2.2 hI.1.2 (fun τ a b c => ⟨_, rfl, R_image ⟨rfl, Rel_K h a (fun i h0 h2 => by rw [sr1n h0, sr1n h2]) (by rw [sr1, updN (by decide)]) (Or.inr ⟨b, by rw [sr1, updS], ?_⟩)⟩⟩)
  rw [sr1n (by decide), sr1]
  exact ⟨Inv_120 ef hI, nv0_of (ef 0 (by decide)) h.1.2.1, XC_S ef hI.1.2 c⟩
theorem P_undo (h : Rel σ σm) : Pr eX eM mX_undo mM_undo [] σ σm := by
  rcases h.2.1 with ⟨a, b⟩ | ⟨a, b, hI, h0, hX⟩
  · exact X_undo (S2 := fun _ => 0) (by decide) (fun _ => ⟨_, rfl, R_undo (fun _ => ⟨rfl, Rel_no h 3 (by decide) _ rfl⟩) (fun z => absurd b z)⟩) (fun z => absurd a z) (fun z => absurd a z)
  have na : ¬ σ.1 0 8 = 0 := by rw [a]; decide
  have nb : ¬ σm.1 0 3 = 0 := by rw [b]; decide
  have ef : ∀ i, i < 120 → fa_fill (σm.1 2) (σm.1 1) 120 i = σm.1 2 i := fun i hi => fa_fill_in hi
  exact X_undo (S2 := σm.1 2) hI.1.2 (fun z => absurd z na) (fun _ => hX) (fun _ τ c d => ⟨_, rfl, R_undo (fun z => absurd z nb) (fun _ => ⟨rfl, Rel_C h c (XC_S ef hI.1.2 d) (Inv_120 ef hI) (nv0_of (ef 0 (by decide)) h0)⟩)⟩)
theorem P_tear (h : Rel σ σm) : Pr eX eM mX_tear mM_tear [] σ σm := by
  have e : (if σ.1 0 8 = 0 then 0 else (1 : Int32)) = if σm.1 0 3 = 0 then 0 else 1 := by
    rcases h.2.1 with ⟨a, b⟩ | ⟨a, b, -⟩
    · rw [a, b]
    · rw [a, b]
  exact X_tear (fun τ a b => ⟨_, rfl, R_tear ⟨by rw [e], Rel_K h (fun i h0 _ => a i h0) (fun i h0 _ => by rw [sr1n h0]) (by rw [sr1, updN (by decide)]) (Or.inl ⟨b, by rw [sr1, updS]⟩)⟩⟩)
theorem P_count {a : Int32} (h : Rel σ σm) : Pr eX eM mX_count mM_count [.int a] σ σm := by
  obtain ⟨t, ht, h11, hT⟩ := h.2.2.1
  refine X_count h.1.2.2 h.1.1 hT (fun n => ⟨_, rfl, R_count h.1.1 (fun _ => ⟨rfl, Rel_no h 0 (by decide) _ rfl⟩) (fun w z1 z2 => absurd ⟨w, Nat.zero_le _, z1, z2⟩ n)⟩) (fun w z1 z2 => ⟨_, rfl, R_count h.1.1 (fun n => absurd ⟨w, Nat.zero_le _, z1, z2⟩ n) (fun w2 y1 y2 => ?_)⟩)
  obtain rfl : w2 = w := nI_i (y2.symm.trans z2) (by omega) (by omega)
  exact ⟨by rw [h11], h⟩
theorem P_status {a : Int32} (h : Rel σ σm) : Pr eX eM mX_status mM_status [.int a] σ σm := by
  have m1 : ∀ {w : Nat}, w ≤ 6 → a = nI w → a = -1 → False := fun {k} hk e e2 => by
    have : (-1 : Int32).toInt = (k : Int) := by rw [← e2, e]; exact nI_toInt (by omega)
    rw [show (-1 : Int32).toInt = -1 by decide] at this
    omega
  refine X_status (F := σm.1 4) h.2.2.2.1 (fun n => ⟨_, rfl, R_status (fun _ => ⟨rfl, Rel_no h 0 (by decide) _ rfl⟩) (fun z => absurd (Or.inl z) n) (fun w z1 z2 => absurd (Or.inr ⟨w, Nat.zero_le _, z1, z2⟩) n)⟩) (fun e => ⟨_, rfl, R_status (fun n => absurd (Or.inl e) n) (fun _ => ⟨rfl, h⟩) (fun w z1 z2 => (m1 z1 z2 e).elim)⟩) (fun w z1 z2 => ⟨_, rfl, R_status (fun n => absurd (Or.inr ⟨w, Nat.zero_le _, z1, z2⟩) n) (fun e => (m1 z1 z2 e).elim) (fun w2 y1 y2 => ?_)⟩)
  obtain rfl : w2 = w := nI_i (y2.symm.trans z2) (by omega) (by omega)
  exact ⟨rfl, h⟩
theorem P_text (h : Rel σ σm) : Pr eX eM mX_text mM_text [] σ σm := by
  have hI := h.1.1
  obtain ⟨t, ht, h11, hT⟩ := h.2.2.1
  have ok : ∀ n S', rdT (σm.1 8) t 121 0 (σm.1 1) (tok (σm.1 8) t 0) = (n, S') → Inv S' ∧ S' 0 = σm.1 1 0 := fun n S' e => by
    have := rdT_ok (T := σm.1 8) (τ := t) 121 0 (σm.1 1) (tok (σm.1 8) t 0) hI
    rw [e] at this
    exact this
  have fin : ∀ {τ τm : St2} {S2 S3 : Nat → Int32}, Xf σ τ → XC τ 1 S2 → XT τ (σm.1 8) 0 → Inv S2 → S2 0 = σm.1 1 0 → (∀ i, i < 120 → S3 i = S2 i) → Tz (sr (sr (sr σm 3 (fa_fill (σm.1 1) (σm.1 3) 120)) 0 (upd (σm.1 0) 11 0)) 1 S3) τm → Rel τ τm := by
    intro τ τm S2 S3 hx hX hT' hI2 h02 h3 hz
    have hM : ∀ i, i ≠ 0 → i ≠ 1 → i ≠ 3 → τm.1 i = σm.1 i := fun i i0 i1 i3 => by rw [Tz_k i0 hz, sr1n i1, sr1n i0, sr1n i3]
    have e1 : τm.1 1 = S3 := by rw [Tz_k (by decide) hz, sr1]
    have e11 : τm.1 0 11 = 0 := by rw [Tz_11 hz, sr1n (by decide), sr1, updS]
    have e03 : τm.1 0 3 = σm.1 0 3 := by
      obtain ⟨x1, x2, x3, x4, rfl⟩ := hz
      unfold tkS
      rw [show ∀ (s : St2) (k j : Nat) (v : Int64), (sl s k j v).1 = s.1 from fun _ _ _ _ => rfl, sr1, updN (by decide), updN (by decide), updN (by decide), sr1n (by decide), sr1, updN (by decide)]
    refine ⟨⟨by rw [e1]; exact Inv_120 h3 hI2, by rw [e1]; exact nv0_of ((h3 0 (by decide)).trans h02) h.1.2.1, by rw [e1]; exact XC_S h3 hI2.1.2 hX⟩, ?_, ⟨0, by decide, e11, by rw [hM 8 (by decide) (by decide) (by decide)]; exact hT'⟩, RF_k h.2.2.2.1 (hx 62 (by omega) (by omega) (by omega)) (hM 4 (by decide) (by decide) (by decide)), RS_k h.2.2.2.2.1 (fun i p q => hx i (by omega) (by omega) (by omega)) (hM 13 (by decide) (by decide) (by decide)) (hM 14 (by decide) (by decide) (by decide)) (hM 15 (by decide) (by decide) (by decide)), Lt_k h.2.2.2.2.2 (hM 9 (by decide) (by decide) (by decide)) (hM 10 (by decide) (by decide) (by decide)) (hM 11 (by decide) (by decide) (by decide)) (hM 12 (by decide) (by decide) (by decide))⟩
    exact RK_k h.2.1 (by rw [hx 0 (by omega) (by omega) (by omega)]) (fun i p q => hx i (by omega) (by omega) (by omega)) e03 (hM 2 (by decide) (by decide) (by decide))
  refine X_text ht h.1.2.2 hI hT (fun n S' e f τ x c d => ⟨_, rfl, R_text ht hI h.2.2.2.2.2 h11 (fun n2 S2 τm e2 f2 z => ?_) (fun n2 S2 τm e2 f2 z => ?_)⟩) (fun n S' e f τ x c d => ⟨_, rfl, R_text ht hI h.2.2.2.2.2 h11 (fun n2 S2 τm e2 f2 z => ?_) (fun n2 S2 τm e2 f2 z => ?_)⟩)
  all_goals obtain ⟨rfl, rfl⟩ := Prod.mk.inj (e2.symm.trans e)
  · exact ⟨rfl, fin x c d (ok _ _ e).1 (ok _ _ e).2 (fun _ _ => rfl) z⟩
  · exact absurd f2 f
  · exact absurd f f2
  · exact ⟨rfl, fin x c d hI rfl (fun i hi => fa_fill_in hi) z⟩
end PP
