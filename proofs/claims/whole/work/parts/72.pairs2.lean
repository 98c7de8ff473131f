/-! the two objects answer alike, call by call: what takes an argument and searches -/
section PP
variable {eX eM : EV} {σ σm : St2}
theorem row_10 {S : Nat → Int32} {m : Nat} (hI : Inv S) (hl : lst S 0 (nv S 2) ≠ none) (hm : rowM S (nv S 2) m) : m ≤ 10 := by
  have h := (rst_ok hI hI.2.1.2 hl m hm.2).2.2.1
  have := pcn_le (rst S (nv S 2) m)
  omega
theorem P_ith {a : Int32} (h : Rel σ σm) : Pr eX eM mX_ith mM_ith [.int a] σ σm := by
  have hI := h.1.1
  rcases or_R a 0 9 with n | ⟨m, -, hm, rfl⟩
  · exact X_ith h.1.2.2 hI (fun _ => ⟨_, rfl, R_ith hI (fun _ => ⟨rfl, Rel_no h 0 (by decide) _ rfl⟩) (fun k z1 z2 _ => absurd ⟨k, Nat.zero_le _, z1, z2⟩ n) (fun j m z1 z2 z3 z4 => absurd ⟨j, Nat.zero_le _, by have := row_10 hI z2 z3; omega, z1⟩ n)⟩) (fun k z1 z2 _ => absurd ⟨k, Nat.zero_le _, z1, z2⟩ n) (fun j m z1 z2 z3 z4 => absurd ⟨j, Nat.zero_le _, by have := row_10 hI z2 z3; omega, z1⟩ n)
  have y : rgI (nI m) 0 9 := ⟨m, Nat.zero_le _, hm, rfl⟩
  refine X_ith h.1.2.2 hI (fun z => absurd y z) (fun j hj e f τ w => ⟨_, rfl, R_ith hI (fun z => absurd y z) (fun _ _ _ _ τm s => ⟨rfl, Rel_no (Rel_W h w s) 3 (by decide) _ rfl⟩) (fun j2 m2 e2 g1 g2 g3 => ?_)⟩) (fun j m1 e f1 f2 f3 τ w => ⟨_, rfl, R_ith hI (fun z => absurd y z) (fun j2 hj2 e2 g => ?_) (fun j2 m2 e2 g1 g2 g3 τm s => ?_)⟩)
  · have := row_10 hI g1 g2
    obtain rfl : j2 = j := nI_i (e2.symm.trans e) (by omega) (by omega)
    rcases f with z | ⟨m3, z1, z2⟩
    · exact absurd z g1
    · have := rowM_u z1 g2
      omega
  · have := row_10 hI f1 f2
    obtain rfl : j2 = j := nI_i (e2.symm.trans e) (by omega) (by omega)
    rcases g with z | ⟨m3, z1, z2⟩
    · exact absurd z f1
    · have := rowM_u z1 f2
      omega
  · have := row_10 hI f1 f2
    have := row_10 hI g1 g2
    obtain rfl : j2 = j := nI_i (e2.symm.trans e) (by omega) (by omega)
    exact ⟨rfl, Rel_W h w s⟩
theorem P_ahead {a : Int32} (h : Rel σ σm) : Pr eX eM mX_ahead mM_ahead [.int a] σ σm := by
  have hI := h.1.1
  have hC := h.1.2.1
  rcases or_R a 0 1 with n | ⟨m, -, hm, rfl⟩
  · have n0 : a ≠ nI 0 := fun z => n ⟨0, by omega, by omega, z⟩
    have n1 : a ≠ nI 1 := fun z => n ⟨1, by omega, by omega, z⟩
    exact X_ahead h.1.2.2 hI hC (fun _ => ⟨_, rfl, R_ahead hI hC (fun _ => ⟨rfl, Rel_no h 0 (by decide) _ rfl⟩) (fun w z1 z2 => absurd ⟨w, Nat.zero_le _, z1, z2⟩ n) (fun w _ z1 z2 => absurd ⟨w, Nat.zero_le _, z1, z2⟩ n) (fun _ z => absurd z n0) (fun _ _ z => absurd z n1)⟩) (fun w z1 z2 => absurd ⟨w, Nat.zero_le _, z1, z2⟩ n) (fun w _ z1 z2 => absurd ⟨w, Nat.zero_le _, z1, z2⟩ n) (fun _ z => absurd z n0) (fun _ _ z => absurd z n1)
  have y : rgI (nI m) 0 1 := ⟨m, Nat.zero_le _, hm, rfl⟩
  have no : ∀ {v : Nat}, lst (σm.1 1) 0 (nv (σm.1 1) 2) = none → lst (σm.1 1) 0 (nv (σm.1 1) 2) = some v → False := fun f g => by rw [f] at g; cases g
  have un : ∀ {v v2 : Nat}, lst (σm.1 1) 0 (nv (σm.1 1) 2) = some v → lst (σm.1 1) 0 (nv (σm.1 1) 2) = some v2 → v2 = v := fun f g => by rw [f] at g; cases g; rfl
  refine X_ahead h.1.2.2 hI hC (fun z => absurd y z)
    (fun w z1 e f τ wf => ⟨_, rfl, R_ahead hI hC (fun z => absurd y z) (fun _ _ _ _ τm s => ⟨rfl, Rel_no (Rel_W h wf s) 3 (by decide) _ rfl⟩) (fun _ _ _ _ g => absurd g (no f)) (fun _ _ g => absurd g (no f)) (fun _ _ _ g => absurd g (no f))⟩)
    (fun w v z1 e f f2 τ wf => ⟨_, rfl, R_ahead hI hC (fun z => absurd y z) (fun _ _ _ g => absurd f (no g)) (fun _ _ _ _ _ _ τm s => ⟨rfl, Rel_no (Rel_W h wf s) 4 (by decide) _ rfl⟩) (fun v2 _ g g2 => ?_) (fun v2 _ _ g g2 => ?_)⟩)
    (fun v e f f2 τ wf => ⟨_, rfl, R_ahead hI hC (fun z => absurd y z) (fun _ _ _ g => absurd f (no g)) (fun _ v2 _ _ g g2 => ?_) (fun v2 _ g _ τm s => ?_) (fun _ _ e2 => absurd (e.symm.trans e2) (by decide))⟩)
    (fun v q e f f2 r τ wf => ⟨_, rfl, R_ahead hI hC (fun z => absurd y z) (fun _ _ _ g => absurd f (no g)) (fun _ v2 _ _ g g2 => ?_) (fun _ e2 => absurd (e2.symm.trans e) (by decide)) (fun v2 q2 _ g _ r2 τm s => ?_)⟩)
  · have := un f g; omega
  · have := un f g; omega
  · have := un f g; omega
  · obtain rfl := un f g
    exact ⟨rfl, Rel_W h wf s⟩
  · have := un f g; omega
  · obtain rfl := rowM_u r r2
    exact ⟨rfl, Rel_W h wf s⟩
theorem P_kindFor {a : Int32} (h : Rel σ σm) : Pr eX eM mX_kindFor mM_kindFor [.int a] σ σm := by
  have hI := h.1.1
  have hn := hI.1.2
  rcases or_L (σm.1 1) a with n | ⟨k, hk, rfl⟩
  · exact X_kindFor h.1.2.2 hI (fun _ => ⟨_, rfl, R_kindFor hI (fun _ => ⟨rfl, Rel_no h 0 (by decide) _ rfl⟩) (fun k z1 z2 _ => absurd ⟨k, z1, z2⟩ n) (fun k _ _ z1 z2 _ => absurd ⟨k, z1, z2⟩ n)⟩) (fun k z1 z2 _ => absurd ⟨k, z1, z2⟩ n) (fun k _ _ z1 z2 _ => absurd ⟨k, z1, z2⟩ n)
  have y : hasL (σm.1 1) (nI k) := ⟨k, hk, rfl⟩
  refine X_kindFor h.1.2.2 hI (fun z => absurd y z) (fun k1 z1 z2 f τ w => ⟨_, rfl, R_kindFor hI (fun z => absurd y z) (fun k2 y1 y2 g τm s => ⟨rfl, Rel_no (Rel_W h w s) 3 (by decide) _ rfl⟩) (fun k2 b c y1 y2 g τm s => ?_)⟩) (fun k1 b1 c1 z1 z2 f τ w => ⟨_, rfl, R_kindFor hI (fun z => absurd y z) (fun k2 y1 y2 g τm s => ?_) (fun k2 b c y1 y2 g τm s => ?_)⟩)
  · have e1 : k2 = k1 := nI_i (y2.symm.trans z2) (by omega) (by omega)
    subst e1
    rw [f] at g; cases g
  · have e1 : k2 = k1 := nI_i (y2.symm.trans z2) (by omega) (by omega)
    subst e1
    rw [f] at g; cases g
  · have e1 : k2 = k1 := nI_i (y2.symm.trans z2) (by omega) (by omega)
    subst e1
    rw [f] at g; cases g
    exact ⟨rfl, Rel_W h w s⟩
theorem P_surest {a : Int32} (h : Rel σ σm) : PrL eX eM mX_surest mM_surest [.int a] σ σm := by
  have hI := h.1.1
  rcases or_R a 0 1 with n | ⟨m, -, hm, rfl⟩
  · have n0 : a ≠ nI 0 := fun z => n ⟨0, by omega, by omega, z⟩
    have n1 : a ≠ nI 1 := fun z => n ⟨1, by omega, by omega, z⟩
    exact X_surest h.1.2.2 hI (fun _ => ⟨_, rfl, R_surest hI (fun _ => ⟨rfl, Rel_no h 0 (by decide) _ rfl⟩) (fun z => absurd z n) (fun z => absurd z n0) (fun z => absurd z n1)⟩) (fun z => absurd z n) (fun z => absurd z n0) (fun z => absurd z n1)
  have y : rgI (nI m) 0 1 := ⟨m, Nat.zero_le _, hm, rfl⟩
  refine X_surest h.1.2.2 hI (fun z => absurd y z) (fun _ f τ w => ⟨_, rfl, R_surest hI (fun z => absurd y z) (fun _ g τm s => ⟨rfl, Rel_no (Rel_W h w s) 3 (by decide) _ rfl⟩) (fun _ g => absurd f g) (fun _ g => absurd f g)⟩) (fun e f τ w => ⟨_, rfl, R_surest hI (fun z => absurd y z) (fun _ g => absurd g f) (fun _ _ τm s => ⟨rfl, Rel_W h w s⟩) (fun e2 => absurd (e.symm.trans e2) (by decide))⟩) (fun e f τ w => ⟨_, rfl, R_surest hI (fun z => absurd y z) (fun _ g => absurd g f) (fun e2 => absurd (e2.symm.trans e) (by decide)) (fun _ _ τm s => ⟨rfl, Rel_W h w s⟩)⟩)
theorem P_hear {a : Int32} (h : Rel σ σm) : Pr eX eM mX_hear mM_hear [.int a] σ σm := by
  have hI := h.1.1
  exact X_hear h.1.2.2 hI (fun n => ⟨_, rfl, R_hear hI (fun _ => ⟨rfl, Rel_no h 0 (by decide) _ rfl⟩) (fun z => absurd z n)⟩) (fun n => ⟨_, rfl, R_hear hI (fun z => absurd n z) (fun _ => ⟨rfl, h⟩)⟩)
theorem P_fits {a : Int32} (h : Rel σ σm) : Pr eX eM mX_fits mM_fits [.int a] σ σm := by
  have hI := h.1.1
  have hS := h.2.2.2.2.1
  rcases or_R a 0 3 with n | ⟨m, -, hm, rfl⟩
  · have n0 : ∀ j, j < 4 → a ≠ nI j := fun j hj z => n ⟨j, by omega, by omega, z⟩
    exact X_fits h.1.2.2 hI hS.2 hS.1 (fun _ => ⟨_, rfl, R_fits hI hS.1 (fun _ => ⟨rfl, Rel_no h 0 (by decide) _ rfl⟩) (fun j q z => absurd z (n0 j q)) (fun j q z => absurd z (n0 j q))⟩) (fun j q z => absurd z (n0 j q)) (fun j q z => absurd z (n0 j q))
  have y : rgI (nI m) 0 3 := ⟨m, Nat.zero_le _, hm, rfl⟩
  refine X_fits h.1.2.2 hI hS.2 hS.1 (fun z => absurd y z) (fun j q e f => ⟨_, rfl, R_fits hI hS.1 (fun z => absurd y z) (fun _ _ _ _ => ⟨rfl, Rel_no h 5 (by decide) _ rfl⟩) (fun j2 q2 e2 g => ?_)⟩) (fun j q e f τ w => ⟨_, rfl, R_fits hI hS.1 (fun z => absurd y z) (fun j2 q2 e2 g => ?_) (fun j2 q2 e2 g τm s => ?_)⟩)
  · obtain rfl : j2 = j := nI_i (e2.symm.trans e) (by omega) (by omega)
    exact absurd f g
  · obtain rfl : j2 = j := nI_i (e2.symm.trans e) (by omega) (by omega)
    exact absurd g f
  · obtain rfl : j2 = j := nI_i (e2.symm.trans e) (by omega) (by omega)
    exact ⟨rfl, Rel_W h w s⟩
theorem P_maybe {a : Int32} (h : Rel σ σm) : Pr eX eM mX_maybe mM_maybe [.int a] σ σm := by
  have hI := h.1.1
  have hS := h.2.2.2.2.1
  rcases or_R a 0 3 with n | ⟨m, -, hm, rfl⟩
  · have n0 : ∀ j, j < 4 → a ≠ nI j := fun j hj z => n ⟨j, by omega, by omega, z⟩
    exact X_maybe h.1.2.2 hI hS.2 hS.1 (fun _ => ⟨_, rfl, R_maybe hI hS.1 (fun _ => ⟨rfl, Rel_no h 0 (by decide) _ rfl⟩) (fun j q z => absurd z (n0 j q)) (fun j q z => absurd z (n0 j q)) (fun j q z => absurd z (n0 j q))⟩) (fun j q z => absurd z (n0 j q)) (fun j q z => absurd z (n0 j q)) (fun j q z => absurd z (n0 j q))
  have y : rgI (nI m) 0 3 := ⟨m, Nat.zero_le _, hm, rfl⟩
  refine X_maybe h.1.2.2 hI hS.2 hS.1 (fun z => absurd y z) (fun j q e f => ⟨_, rfl, R_maybe hI hS.1 (fun z => absurd y z) (fun _ _ _ _ => ⟨rfl, Rel_no h 5 (by decide) _ rfl⟩) (fun j2 q2 e2 g => ?_) (fun j2 q2 e2 g => ?_)⟩) (fun j q e f f2 τ w => ⟨_, rfl, R_maybe hI hS.1 (fun z => absurd y z) (fun j2 q2 e2 g => ?_) (fun j2 q2 e2 g g2 τm s => ⟨rfl, Rel_no (Rel_W h w s) 3 (by decide) _ rfl⟩) (fun j2 q2 e2 g g2 => ?_)⟩) (fun j q e f f2 τ w => ⟨_, rfl, R_maybe hI hS.1 (fun z => absurd y z) (fun j2 q2 e2 g => ?_) (fun j2 q2 e2 g g2 => ?_) (fun j2 q2 e2 g g2 τm s => ?_)⟩)
  all_goals obtain rfl : j2 = j := nI_i (e2.symm.trans e) (by omega) (by omega)
  · exact absurd f g
  · exact absurd f g
  · exact absurd g f
  · exact absurd g2 f2
  · exact absurd g f
  · exact absurd f2 g2
  · exact ⟨rfl, Rel_W h w s⟩
theorem P_surely {a : Int32} (h : Rel σ σm) : Pr eX eM mX_surely mM_surely [.int a] σ σm := by
  have hI := h.1.1
  have hS := h.2.2.2.2.1
  rcases or_R a 0 3 with n | ⟨m, -, hm, rfl⟩
  · have n0 : ∀ j, j < 4 → a ≠ nI j := fun j hj z => n ⟨j, by omega, by omega, z⟩
    exact X_surely h.1.2.2 hI hS.2 hS.1 (fun _ => ⟨_, rfl, R_surely hI hS.1 (fun _ => ⟨rfl, Rel_no h 0 (by decide) _ rfl⟩) (fun j q z => absurd z (n0 j q)) (fun j q z => absurd z (n0 j q)) (fun j q z => absurd z (n0 j q))⟩) (fun j q z => absurd z (n0 j q)) (fun j q z => absurd z (n0 j q)) (fun j q z => absurd z (n0 j q))
  have y : rgI (nI m) 0 3 := ⟨m, Nat.zero_le _, hm, rfl⟩
  refine X_surely h.1.2.2 hI hS.2 hS.1 (fun z => absurd y z) (fun j q e f => ⟨_, rfl, R_surely hI hS.1 (fun z => absurd y z) (fun _ _ _ _ => ⟨rfl, Rel_no h 5 (by decide) _ rfl⟩) (fun j2 q2 e2 g => ?_) (fun j2 q2 e2 g => ?_)⟩) (fun j q e f f2 τ w => ⟨_, rfl, R_surely hI hS.1 (fun z => absurd y z) (fun j2 q2 e2 g => ?_) (fun j2 q2 e2 g g2 τm s => ⟨rfl, Rel_no (Rel_W h w s) 3 (by decide) _ rfl⟩) (fun j2 q2 e2 g g2 => ?_)⟩) (fun j q e f f2 τ w => ⟨_, rfl, R_surely hI hS.1 (fun z => absurd y z) (fun j2 q2 e2 g => ?_) (fun j2 q2 e2 g g2 => ?_) (fun j2 q2 e2 g g2 τm s => ?_)⟩)
  all_goals obtain rfl : j2 = j := nI_i (e2.symm.trans e) (by omega) (by omega)
  · exact absurd f g
  · exact absurd f g
  · exact absurd g f
  · exact absurd g2 f2
  · exact absurd g f
  · exact absurd f2 g2
  · exact ⟨rfl, Rel_W h w s⟩
theorem P_friday {a : Int32} (h : Rel σ σm) : Pr eX eM mX_friday mM_friday [.int a] σ σm := by
  have hI := h.1.1
  rcases or_R a 1 20 with n | ⟨m, hm1, hm, rfl⟩
  · have n0 : ∀ j, 1 ≤ j → j ≤ 20 → a ≠ nI j := fun j hj hj2 z => n ⟨j, hj, hj2, z⟩
    exact X_friday h.1.2.2 hI (fun _ => ⟨_, rfl, R_friday hI (fun _ => ⟨rfl, Rel_no h 0 (by decide) _ rfl⟩) (fun z => absurd z n) (fun j q q2 z => absurd z (n0 j q q2))⟩) (fun z => absurd z n) (fun j q q2 z => absurd z (n0 j q q2))
  have y : rgI (nI m) 1 20 := ⟨m, hm1, hm, rfl⟩
  refine X_friday h.1.2.2 hI (fun z => absurd y z) (fun _ f => ⟨_, rfl, R_friday hI (fun z => absurd y z) (fun _ _ => ⟨rfl, Rel_no h 4 (by decide) _ rfl⟩) (fun _ _ _ _ g => absurd f g)⟩) (fun j q q2 e f τ c d => ⟨_, rfl, R_friday hI (fun z => absurd y z) (fun _ g => absurd g f) (fun j2 q3 q4 e2 g => ?_)⟩)
  obtain rfl : j2 = j := nI_i (e2.symm.trans e) (by omega) (by omega)
  have h0 : nv (shS (σm.1 1)) 0 = 0 := nv_of (show shS (σm.1 1) 0 = nI 0 by unfold shS; rw [updN (by decide), updS]; rfl) (by decide)
  obtain ⟨i1, i2⟩ := fri_ok j2 0 (shS (σm.1 1)) (by omega) (Inv_sh hI) (by omega)
  exact ⟨rfl, Rel_C h c d i1 (by omega)⟩
theorem P_seed {a : Int32} (h : Rel σ σm) : Pr eX eM mX_seed mM_seed [.int a] σ σm :=
  X_seed h.1.2.2 (fun τ c d => ⟨_, rfl, R_seed ⟨rfl, Rel_C h c d (Inv_9 h.1.1) (nv0_of (updN (by decide)) h.1.2.1)⟩⟩)
theorem P_feed {a b : Int32} (h : Rel σ σm) : Pr eX eM mX_feed mM_feed [.int a, .int b] σ σm := by
  obtain ⟨t, ht, h11, hT⟩ := h.2.2.1
  rcases or_R b 1 4 with n | ⟨m, hm1, hm, rfl⟩
  · have n0 : ∀ j, 1 ≤ j → j ≤ 4 → b ≠ nI j := fun j hj hj2 z => n ⟨j, hj, hj2, z⟩
    exact X_feed hT ht (fun _ => ⟨_, rfl, R_feed h11 ht (fun _ => ⟨rfl, Rel_no h 0 (by decide) _ rfl⟩) (fun j q q2 z => absurd z (n0 j q q2)) (fun j q q2 z => absurd z (n0 j q q2))⟩) (fun j q q2 z => absurd z (n0 j q q2)) (fun j q q2 z => absurd z (n0 j q q2))
  have y : rgI (nI m) 1 4 := ⟨m, hm1, hm, rfl⟩
  refine X_feed hT ht (fun z => absurd y z) (fun j q q2 e f => ⟨_, rfl, R_feed h11 ht (fun z => absurd y z) (fun _ _ _ _ _ => ⟨rfl, Rel_no h 1 (by decide) _ rfl⟩) (fun j2 q3 q4 e2 g => ?_)⟩) (fun j q q2 e f τ c d => ⟨_, rfl, R_feed h11 ht (fun z => absurd y z) (fun j2 q3 q4 e2 g => ?_) (fun j2 q3 q4 e2 g => ?_)⟩)
  · obtain rfl : j2 = j := nI_i (e2.symm.trans e) (by omega) (by omega)
    omega
  · obtain rfl : j2 = j := nI_i (e2.symm.trans e) (by omega) (by omega)
    omega
  · obtain rfl : j2 = j := nI_i (e2.symm.trans e) (by omega) (by omega)
    refine ⟨rfl, Rel_T h c (fun i h0 h8 => by rw [sr1n h0, sr1n h8]) (by rw [sr1, updN (by decide)]) ⟨t + j2, g, by rw [sr1, updS], ?_⟩⟩
    rw [sr1n (by decide), sr1]
    exact d
theorem P_wipe (h : Rel σ σm) : Pr eX eM mX_wipe mM_wipe [] σ σm := by
  obtain ⟨t, ht, h11, hT⟩ := h.2.2.1
  refine X_wipe hT (fun τ c d => ⟨_, rfl, R_wipe ⟨by rw [h11], Rel_T h c (fun i h0 h8 => by rw [sr1n h0]) (by rw [sr1, updN (by decide)]) ⟨0, by decide, by rw [sr1, updS]; rfl, ?_⟩⟩⟩)
  rw [sr1n (by decide)]
  exact d
theorem P_hold {a b : Int32} (h : Rel σ σm) : Pr eX eM mX_hold mM_hold [.int a, .int b] σ σm := by
  have hI := h.1.1
  refine X_hold h.1.2.2 hI (fun n => ⟨_, rfl, R_hold hI (fun _ => ⟨rfl, Rel_no h 0 (by decide) _ rfl⟩) (fun i q e f => absurd ⟨⟨i, Nat.zero_le _, q, e⟩, f⟩ n)⟩) (fun i q e f τ c d => ⟨_, rfl, R_hold hI (fun n => absurd ⟨⟨i, Nat.zero_le _, q, e⟩, f⟩ n) (fun j q2 e2 g => ?_)⟩)
  obtain rfl : j = i := nI_i (e2.symm.trans e) (by omega) (by omega)
  exact ⟨rfl, Rel_C h c d (Inv_sp hI q2 g) (nv0_of (updN (by omega)) h.1.2.1)⟩
end PP
