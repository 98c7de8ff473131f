/-! the two objects answer alike, call by call -/
def Pr (eX eM : EV) (μ ν : Nat) (as : List Value) (σ σm : St2) : Prop := Rn 0 eX μ (.ref 0 :: as) σ (fun r τ => ∃ v : Int32, r = some (.int v) ∧ Rn 1 eM ν (.ref 0 :: as) σm (fun r' τm => r' = some (.int v) ∧ Rel τ τm))
def PrL (eX eM : EV) (μ ν : Nat) (as : List Value) (σ σm : St2) : Prop := Rn 0 eX μ (.ref 0 :: as) σ (fun r τ => ∃ v : Int64, r = some (.long v) ∧ Rn 1 eM ν (.ref 0 :: as) σm (fun r' τm => r' = some (.long v) ∧ Rel τ τm))
section PP
variable {eX eM : EV} {σ σm : St2}
theorem P_lock {a : Int32} (h : Rel σ σm) : Pr eX eM mX_lock mM_lock [.int a] σ σm := by
  have hI := h.1.1
  rcases or_R a 0 6 with n | ⟨m, -, hm, rfl⟩
  · exact X_lock h.1.2.2 hI (fun _ => ⟨_, rfl, R_lock hI (fun _ => ⟨rfl, Rel_no h 0 (by decide) _ rfl⟩) (fun z => absurd z n) (fun z => absurd z n)⟩) (fun z => absurd z n) (fun z => absurd z n)
  have y : rgI (nI m) 0 6 := ⟨m, Nat.zero_le _, hm, rfl⟩
  refine X_lock h.1.2.2 hI (fun z => absurd y z) (fun _ f => ⟨_, rfl, R_lock hI (fun z => absurd y z) (fun _ _ => ⟨rfl, Rel_no h 1 (by decide) _ rfl⟩) (fun _ z => ?_)⟩) (fun _ f τ c d => ⟨_, rfl, R_lock hI (fun z => absurd y z) (fun _ z => ?_) (fun _ _ => ⟨rfl, ?_⟩)⟩)
  · omega
  · omega
  · exact Rel_C h c d (Inv_cm hI f hm).1 (nv0_of (by unfold cmS tr; rw [if_neg (by decide), if_neg (by omega), if_neg (by omega), if_neg (by omega), if_neg (by omega)]) h.1.2.1)
theorem P_of {a b : Int32} (h : Rel σ σm) : Pr eX eM mX_of mM_of [.int a, .int b] σ σm := by
  have hI := h.1.1
  have hn := hI.1.2
  refine X_of h.1.2.2 hI (fun n => ⟨_, rfl, R_of hI (fun _ => ⟨rfl, Rel_no h 0 (by decide) _ rfl⟩) (fun k w z1 z2 z3 z4 => absurd ⟨⟨k, z1, z2⟩, ⟨w, Nat.zero_le _, z3, z4⟩⟩ n)⟩) (fun k w z1 z2 z3 z4 => ⟨_, rfl, R_of hI (fun n => absurd ⟨⟨k, z1, z2⟩, ⟨w, Nat.zero_le _, z3, z4⟩⟩ n) (fun k' w' y1 y2 y3 y4 => ?_)⟩)
  have e1 : k' = k := nI_i (y2.symm.trans z2) (by omega) (by omega)
  have e2 : w' = w := nI_i (y4.symm.trans z4) (by omega) (by omega)
  subst e1 e2
  exact ⟨rfl, h⟩
theorem P_change {a b c : Int32} (h : Rel σ σm) : Pr eX eM mX_change mM_change [.int a, .int b, .int c] σ σm := by
  have hI := h.1.1
  have hn := hI.1.2
  refine X_change h.1.2.2 hI (fun n => ⟨_, rfl, R_change hI (fun _ => ⟨rfl, Rel_no h 0 (by decide) _ rfl⟩) (fun k w m z1 z2 z3 z4 z5 z6 z7 => absurd ⟨k, w, m, z1, z2, z3, z4, z5, z6, z7⟩ n)⟩) (fun k w m z1 z2 z3 z4 z5 z6 z7 τ c d => ⟨_, rfl, R_change hI (fun n => absurd ⟨k, w, m, z1, z2, z3, z4, z5, z6, z7⟩ n) (fun k' w' m' y1 y2 y3 y4 y5 y6 y7 => ?_)⟩)
  have e1 : k' = k := nI_i (y2.symm.trans z2) (by omega) (by omega)
  have e2 : w' = w := nI_i (y4.symm.trans z4) (by omega) (by omega)
  subst e1 e2
  rw [← y7]
  rw [← z7] at d
  exact ⟨rfl, Rel_C h c d (by rw [z7]; exact Inv_change hI z1 z3 z5 z6) (nv0_of (updN (by unfold tr; omega)) h.1.2.1)⟩
theorem P_rule {a b : Int32} (h : Rel σ σm) : Pr eX eM mX_rule mM_rule [.int a, .int b] σ σm := by
  have hI := h.1.1
  have hn := hI.1.2
  refine X_rule h.1.2.2 hI (fun n => ⟨_, rfl, R_rule hI (fun _ => ⟨rfl, Rel_no h 0 (by decide) _ rfl⟩) (fun w m z1 z2 z3 z4 => absurd ⟨w, m, z1, z2, z3, z4⟩ n)⟩) (fun w m z1 z2 z3 z4 τ c d => ⟨_, rfl, R_rule hI (fun n => absurd ⟨w, m, z1, z2, z3, z4⟩ n) (fun w' m' y1 y2 y3 y4 => ?_)⟩)
  have e2 : w' = w := nI_i (y2.symm.trans z2) (by omega) (by omega)
  subst e2
  rw [← y4]
  rw [← z4] at d
  refine ⟨rfl, Rel_C h c d (by rw [z4]; exact Inv_rule hI z1 z3) (nv0_of (updN (by omega)) h.1.2.1)⟩
theorem P_on {a : Int32} (h : Rel σ σm) : Pr eX eM mX_on mM_on [.int a] σ σm := by
  have hI := h.1.1
  have hn := hI.1.2
  refine X_on h.1.2.2 hI (fun n => ⟨_, rfl, R_on hI (fun _ => ⟨rfl, Rel_no h 0 (by decide) _ rfl⟩) (fun k z1 z2 => absurd ⟨k, z1, z2⟩ n)⟩) (fun k z1 z2 τ c d => ⟨_, rfl, R_on hI (fun n => absurd ⟨k, z1, z2⟩ n) (fun k' y1 y2 => ?_)⟩)
  have e1 : k' = k := nI_i (y2.symm.trans z2) (by omega) (by omega)
  subst e1
  exact ⟨rfl, Rel_C h c d (Inv_2 hI) (nv0_of (updN (by decide)) h.1.2.1)⟩
theorem P_shut (h : Rel σ σm) : Pr eX eM mX_shut mM_shut [] σ σm := by
  have hI := h.1.1
  refine X_shut h.1.2.2 hI (fun τ c d => ⟨_, rfl, R_shut hI ⟨rfl, Rel_C h c d (Inv_sh hI) ?_⟩⟩)
  have : shS (σm.1 1) 0 = nI 0 := by unfold shS; rw [updN (by decide), updS]; rfl
  show nv (shS (σm.1 1)) 0 ≤ 99999
  rw [nv_of this (by decide)]
  decide
theorem P_may (h : Rel σ σm) : Pr eX eM mX_may mM_may [] σ σm :=
  X_may h.1.2.2 h.1.1 ⟨_, rfl, R_may h.1.1 ⟨rfl, h⟩⟩
theorem P_why {a : Int32} (h : Rel σ σm) : Pr eX eM mX_why mM_why [.int a] σ σm := by
  have hI := h.1.1
  have hn := hI.1.2
  refine X_why h.1.2.2 hI (fun n => ⟨_, rfl, R_why hI (fun _ => ⟨rfl, Rel_no h 0 (by decide) _ rfl⟩) (fun k z1 z2 => absurd ⟨k, z1, z2⟩ n)⟩) (fun k z1 z2 => ⟨_, rfl, R_why hI (fun n => absurd ⟨k, z1, z2⟩ n) (fun k' y1 y2 => ?_)⟩)
  have e1 : k' = k := nI_i (y2.symm.trans z2) (by omega) (by omega)
  subst e1
  exact ⟨rfl, h⟩
theorem P_off {a : Int32} (h : Rel σ σm) : Pr eX eM mX_off mM_off [.int a] σ σm := by
  have hI := h.1.1
  have hn := hI.1.2
  rcases or_L (σm.1 1) a with n | ⟨k, hk, rfl⟩
  · exact X_off h.1.2.2 hI (fun _ => ⟨_, rfl, R_off hI (fun _ => ⟨rfl, Rel_no h 0 (by decide) _ rfl⟩) (fun k z1 z2 _ => absurd ⟨k, z1, z2⟩ n) (fun k z1 z2 _ _ => absurd ⟨k, z1, z2⟩ n)⟩) (fun k z1 z2 _ => absurd ⟨k, z1, z2⟩ n) (fun k z1 z2 _ _ => absurd ⟨k, z1, z2⟩ n)
  have y : hasL (σm.1 1) (nI k) := ⟨k, hk, rfl⟩
  refine X_off h.1.2.2 hI (fun z => absurd y z) (fun k' z1 z2 f => ⟨_, rfl, R_off hI (fun z => absurd y z) (fun _ _ _ _ => ⟨rfl, Rel_no h 4 (by decide) _ rfl⟩) (fun k2 y1 y2 y3 y4 => ?_)⟩) (fun k' z1 z2 f g τ c d => ⟨_, rfl, R_off hI (fun z => absurd y z) (fun k2 y1 y2 y3 => ?_) (fun k2 y1 y2 _ _ => ?_)⟩)
  · have e1 : k2 = k' := nI_i (y2.symm.trans z2) (by omega) (by omega)
    subst e1
    exact absurd ⟨y3, y4⟩ f
  · have e1 : k2 = k' := nI_i (y2.symm.trans z2) (by omega) (by omega)
    subst e1
    exact absurd ⟨f, g⟩ y3
  · have e1 : k2 = k' := nI_i (y2.symm.trans z2) (by omega) (by omega)
    subst e1
    obtain ⟨i1, i2, i3⟩ := Inv_stS hI y1 (by omega)
    exact ⟨rfl, Rel_C h c d i1 (by rw [i3]; exact g)⟩
theorem P_now {a : Int32} (h : Rel σ σm) : Pr eX eM mX_now mM_now [.int a] σ σm := by
  have hI := h.1.1
  refine X_now h.1.2.2 hI (fun n => ⟨_, rfl, R_now hI (fun _ => ⟨rfl, Rel_no h 0 (by decide) _ rfl⟩) (fun k z1 z2 => absurd ⟨k, Nat.zero_le _, z1, z2⟩ n)⟩) (fun k z1 z2 => ⟨_, rfl, R_now hI (fun n => absurd ⟨k, Nat.zero_le _, z1, z2⟩ n) (fun k' y1 y2 => ?_)⟩)
  have e1 : k' = k := nI_i (y2.symm.trans z2) (by omega) (by omega)
  subst e1
  exact ⟨rfl, h⟩
theorem P_soonest (h : Rel σ σm) : Pr eX eM mX_soonest mM_soonest [] σ σm := by
  have hI := h.1.1
  exact X_soonest rfl h.1.2.2 hI (fun e τ w => ⟨_, rfl, R_soonest hI (fun _ τm s => ⟨rfl, Rel_no (Rel_W h w s) 3 (by decide) _ rfl⟩) (fun v y => absurd (e.symm.trans y) (by simp))⟩) (fun v e τ w => ⟨_, rfl, R_soonest hI (fun y => absurd (e.symm.trans y) (by simp)) (fun v2 y τm s => by obtain rfl := Option.some.inj (e.symm.trans y); exact ⟨rfl, Rel_W h w s⟩)⟩)
theorem P_quietest (h : Rel σ σm) : Pr eX eM mX_quietest mM_quietest [] σ σm := by
  have hI := h.1.1
  exact X_quietest rfl h.1.2.2 hI (fun e τ w => ⟨_, rfl, R_quietest hI (fun _ τm s => ⟨rfl, Rel_no (Rel_W h w s) 3 (by decide) _ rfl⟩) (fun v y => absurd (e.symm.trans y) (by simp))⟩) (fun v e τ w => ⟨_, rfl, R_quietest hI (fun y => absurd (e.symm.trans y) (by simp)) (fun v2 y τm s => by obtain rfl := Option.some.inj (e.symm.trans y); exact ⟨rfl, Rel_W h w s⟩)⟩)
theorem P_fewest (h : Rel σ σm) : Pr eX eM mX_fewest mM_fewest [] σ σm := by
  have hI := h.1.1
  exact X_fewest rfl h.1.2.2 hI (fun e τ w => ⟨_, rfl, R_fewest hI (fun _ τm s => ⟨rfl, Rel_no (Rel_W h w s) 3 (by decide) _ rfl⟩) (fun v y => absurd (e.symm.trans y) (by simp))⟩) (fun v e τ w => ⟨_, rfl, R_fewest hI (fun y => absurd (e.symm.trans y) (by simp)) (fun v2 y τm s => by obtain rfl := Option.some.inj (e.symm.trans y); exact ⟨rfl, Rel_W h w s⟩)⟩)
theorem P_tools (h : Rel σ σm) : Pr eX eM mX_tools mM_tools [] σ σm := by
  have hI := h.1.1
  exact X_tools h.1.2.2 hI (fun e τ w => ⟨_, rfl, R_tools hI (fun _ τm s => ⟨rfl, Rel_no (Rel_W h w s) 3 (by decide) _ rfl⟩) (fun v y => absurd (e.symm.trans y) (by simp))⟩) (fun v e τ w => ⟨_, rfl, R_tools hI (fun y => absurd (e.symm.trans y) (by simp)) (fun v2 y τm s => by obtain rfl := Option.some.inj (e.symm.trans y); exact ⟨rfl, Rel_W h w s⟩)⟩)
theorem P_wire (h : Rel σ σm) : Pr eX eM mX_wire mM_wire [] σ σm := by
  have hI := h.1.1
  exact X_wire h.1.2.2 hI (fun e τ w => ⟨_, rfl, R_wire hI (fun _ τm s => ⟨rfl, Rel_no (Rel_W h w s) 3 (by decide) _ rfl⟩) (fun v c y => absurd (e.symm.trans y) (by simp))⟩) (fun v c e τ w => ⟨_, rfl, R_wire hI (fun y => absurd (e.symm.trans y) (by simp)) (fun v2 c2 y τm s => by obtain rfl := (Prod.mk.inj (Option.some.inj (e.symm.trans y))).1; obtain rfl := (Prod.mk.inj (Option.some.inj (e.symm.trans y))).2; exact ⟨rfl, Rel_W h w s⟩)⟩)
theorem P_link (h : Rel σ σm) : Pr eX eM mX_link mM_link [] σ σm := by
  have hI := h.1.1
  exact X_link h.1.2.2 hI (fun e τ w => ⟨_, rfl, R_link hI (fun _ τm s => ⟨rfl, Rel_no (Rel_W h w s) 3 (by decide) _ rfl⟩) (fun v c y => absurd (e.symm.trans y) (by simp))⟩) (fun v c e τ w => ⟨_, rfl, R_link hI (fun y => absurd (e.symm.trans y) (by simp)) (fun v2 c2 y τm s => by obtain rfl := (Prod.mk.inj (Option.some.inj (e.symm.trans y))).1; obtain rfl := (Prod.mk.inj (Option.some.inj (e.symm.trans y))).2; exact ⟨rfl, Rel_W h w s⟩)⟩)
theorem P_linked (h : Rel σ σm) : Pr eX eM mX_linked mM_linked [] σ σm := by
  have hI := h.1.1
  exact X_linked h.1.2.2 hI (fun e τ w => ⟨_, rfl, R_linked hI (fun _ τm s => ⟨rfl, Rel_no (Rel_W h w s) 3 (by decide) _ rfl⟩) (fun v c y => absurd (e.symm.trans y) (by simp))⟩) (fun v c e τ w => ⟨_, rfl, R_linked hI (fun y => absurd (e.symm.trans y) (by simp)) (fun v2 c2 y τm s => by obtain rfl := (Prod.mk.inj (Option.some.inj (e.symm.trans y))).1; obtain rfl := (Prod.mk.inj (Option.some.inj (e.symm.trans y))).2; exact ⟨rfl, Rel_W h w s⟩)⟩)
theorem P_spared (h : Rel σ σm) : Pr eX eM mX_spared mM_spared [] σ σm := by
  have hI := h.1.1
  exact X_spared h.1.2.2 hI (fun e τ w => ⟨_, rfl, R_spared hI (fun _ τm s => ⟨rfl, Rel_no (Rel_W h w s) 3 (by decide) _ rfl⟩) (fun v c y => absurd (e.symm.trans y) (by simp))⟩) (fun v c e τ w => ⟨_, rfl, R_spared hI (fun y => absurd (e.symm.trans y) (by simp)) (fun v2 c2 y τm s => by obtain rfl := (Prod.mk.inj (Option.some.inj (e.symm.trans y))).1; obtain rfl := (Prod.mk.inj (Option.some.inj (e.symm.trans y))).2; exact ⟨rfl, Rel_W h w s⟩)⟩)
theorem P_ever (h : Rel σ σm) : Pr eX eM mX_ever mM_ever [] σ σm :=
  X_ever h.1.2.2 h.1.1 (fun τ w => ⟨_, rfl, R_ever h.1.1 (fun τm s => ⟨rfl, Rel_W h w s⟩)⟩)
theorem P_states (h : Rel σ σm) : Pr eX eM mX_states mM_states [] σ σm :=
  X_states h.1.2.2 h.1.1 (fun τ w => ⟨_, rfl, R_states h.1.1 (fun τm s => ⟨rfl, Rel_W h w s⟩)⟩)
theorem P_rows (h : Rel σ σm) : Pr eX eM mX_rows mM_rows [] σ σm :=
  X_rows h.1.2.2 h.1.1 (fun τ w => ⟨_, rfl, R_rows h.1.1 (fun τm s => ⟨rfl, Rel_W h w s⟩)⟩)
end PP
