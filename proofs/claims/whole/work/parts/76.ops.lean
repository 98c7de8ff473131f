/-! the law, operation by operation -/
def bA (pc : Nat) (k : Int) : Bool := decide (decode code pc = .ok (.aload_n 0, 1)) && (decide (decode code (pc + 1) = .ok (.iload_n 3, 1)) && (decide (decode code (pc + 2) = .ok (.iconst k, 1)) && (decide (decode code (pc + 3) = .ok (.iadd, 1)) && decide (decode code (pc + 4) = .ok (.iaload, 1)))))
theorem bA_ok {pc : Nat} {k : Int} (h : bA pc k = true) : dA pc k := by
  simp only [bA, Bool.and_eq_true, decide_eq_true_eq] at h
  exact h
def bAs (pc : Nat) : Nat → Nat → Bool
  | _, 0 => true
  | k, n + 1 => bA pc k && bAs (pc + 5) (k + 1) n
theorem bAs_ok (n : Nat) : ∀ (k pc : Nat), bAs pc k n = true → dAs pc k n := by
  induction n with
  | zero =>
    intro k pc _
    unfold dAs
    exact True.intro
  | succ n ih =>
    intro k pc h
    unfold bAs at h
    unfold dAs
    simp only [Bool.and_eq_true] at h
    exact ⟨bA_ok h.1, ih (k + 1) (pc + 5) h.2⟩
def bOp (pc n ix im : Nat) : Bool := decide (decode code pc = .ok (.aload_n 1, 1)) && (bAs (pc + 1) 1 n && (decide (decode code (pc + 1 + 5 * n) = .ok (.invokevirtual ix, 3)) && (decide (decode code (pc + 1 + 5 * n + 3) = .ok (.aload_n 2, 1)) && (bAs (pc + 1 + 5 * n + 3 + 1) 1 n && decide (decode code (pc + 1 + 5 * n + 3 + 1 + 5 * n) = .ok (.invokevirtual im, 3))))))
theorem bOp_ok {pc n ix im : Nat} (h : bOp pc n ix im = true) : dOp pc n ix im := by
  simp only [bOp, Bool.and_eq_true, decide_eq_true_eq] at h
  exact ⟨h.1, bAs_ok _ _ _ h.2.1, h.2.2.1, h.2.2.2.1, bAs_ok _ _ _ h.2.2.2.2.1, h.2.2.2.2.2⟩
section OPS
variable {p : Program} {l : Launch} {e : Env} {s : State} {m : MethodId} {below : List Frame} {meth : Method} {c : Code} {b L : Nat} {xs : Nat → Int32} {eX eM : EV} {σ σm : St2} {t : Nat}
theorem lkX_lock : lnk mX_lock 13 1 := ⟨⟨by decide, lwG_at 269 (by decide +kernel)⟩, rfl, by decide, rfl⟩
theorem lkM_lock : lnk mM_lock 17 1 := ⟨⟨by decide, lwG_at 1104 (by decide +kernel)⟩, rfl, by decide, rfl⟩
theorem op_lock (C0 : lw_At p s m meth c b L xs) (hC : LCx s eX eM) (hL : L ≤ 3072) (ht : t + 6 ≤ L) (h : Rel σ σm) (kk : ∀ τ τm, Rel τ τm → LW p l e s m below meth c b eX eM 1278 (nI t) [] τ τm) : LW p l e s m below meth c b eX eM 236 (nI t) [] σ σm :=
  L_op (n := 1) C0 hC hL ht (by decide) (ix := 13) (im := 17) (bOp_ok (by decide +kernel)) (by decide +kernel) lkX_lock lkM_lock (P_lock h) kk
theorem lkX_of : lnk mX_of 18 2 := ⟨⟨by decide, lwG_at 288 (by decide +kernel)⟩, rfl, by decide, rfl⟩
theorem lkM_of : lnk mM_of 22 2 := ⟨⟨by decide, lwG_at 1124 (by decide +kernel)⟩, rfl, by decide, rfl⟩
theorem op_of (C0 : lw_At p s m meth c b L xs) (hC : LCx s eX eM) (hL : L ≤ 3072) (ht : t + 6 ≤ L) (h : Rel σ σm) (kk : ∀ τ τm, Rel τ τm → LW p l e s m below meth c b eX eM 1278 (nI t) [] τ τm) : LW p l e s m below meth c b eX eM 259 (nI t) [] σ σm :=
  L_op (n := 2) C0 hC hL ht (by decide) (ix := 18) (im := 22) (bOp_ok (by decide +kernel)) (by decide +kernel) lkX_of lkM_of (P_of h) kk
theorem lkX_change : lnk mX_change 23 3 := ⟨⟨by decide, lwG_at 334 (by decide +kernel)⟩, rfl, by decide, rfl⟩
theorem lkM_change : lnk mM_change 27 3 := ⟨⟨by decide, lwG_at 1161 (by decide +kernel)⟩, rfl, by decide, rfl⟩
theorem op_change (C0 : lw_At p s m meth c b L xs) (hC : LCx s eX eM) (hL : L ≤ 3072) (ht : t + 6 ≤ L) (h : Rel σ σm) (kk : ∀ τ τm, Rel τ τm → LW p l e s m below meth c b eX eM 1278 (nI t) [] τ τm) : LW p l e s m below meth c b eX eM 292 (nI t) [] σ σm :=
  L_op (n := 3) C0 hC hL ht (by decide) (ix := 23) (im := 27) (bOp_ok (by decide +kernel)) (by decide +kernel) lkX_change lkM_change (P_change h) kk
theorem lkX_rule : lnk mX_rule 28 2 := ⟨⟨by decide, lwG_at 354 (by decide +kernel)⟩, rfl, by decide, rfl⟩
theorem lkM_rule : lnk mM_rule 31 2 := ⟨⟨by decide, lwG_at 1173 (by decide +kernel)⟩, rfl, by decide, rfl⟩
theorem op_rule (C0 : lw_At p s m meth c b L xs) (hC : LCx s eX eM) (hL : L ≤ 3072) (ht : t + 6 ≤ L) (h : Rel σ σm) (kk : ∀ τ τm, Rel τ τm → LW p l e s m below meth c b eX eM 1278 (nI t) [] τ τm) : LW p l e s m below meth c b eX eM 335 (nI t) [] σ σm :=
  L_op (n := 2) C0 hC hL ht (by decide) (ix := 28) (im := 31) (bOp_ok (by decide +kernel)) (by decide +kernel) lkX_rule lkM_rule (P_rule h) kk
theorem lkX_on : lnk mX_on 32 1 := ⟨⟨by decide, lwG_at 371 (by decide +kernel)⟩, rfl, by decide, rfl⟩
theorem lkM_on : lnk mM_on 35 1 := ⟨⟨by decide, lwG_at 1177 (by decide +kernel)⟩, rfl, by decide, rfl⟩
theorem op_on (C0 : lw_At p s m meth c b L xs) (hC : LCx s eX eM) (hL : L ≤ 3072) (ht : t + 6 ≤ L) (h : Rel σ σm) (kk : ∀ τ τm, Rel τ τm → LW p l e s m below meth c b eX eM 1278 (nI t) [] τ τm) : LW p l e s m below meth c b eX eM 368 (nI t) [] σ σm :=
  L_op (n := 1) C0 hC hL ht (by decide) (ix := 32) (im := 35) (bOp_ok (by decide +kernel)) (by decide +kernel) lkX_on lkM_on (P_on h) kk
theorem lkX_shut : lnk mX_shut 36 0 := ⟨⟨by decide, lwG_at 375 (by decide +kernel)⟩, rfl, by decide, rfl⟩
theorem lkM_shut : lnk mM_shut 40 0 := ⟨⟨by decide, lwG_at 1181 (by decide +kernel)⟩, rfl, by decide, rfl⟩
theorem op_shut (C0 : lw_At p s m meth c b L xs) (hC : LCx s eX eM) (hL : L ≤ 3072) (ht : t + 6 ≤ L) (h : Rel σ σm) (kk : ∀ τ τm, Rel τ τm → LW p l e s m below meth c b eX eM 1278 (nI t) [] τ τm) : LW p l e s m below meth c b eX eM 391 (nI t) [] σ σm :=
  L_op (n := 0) C0 hC hL ht (by decide) (ix := 36) (im := 40) (bOp_ok (by decide +kernel)) (by decide +kernel) lkX_shut lkM_shut (P_shut h) kk
theorem lkX_may : lnk mX_may 41 0 := ⟨⟨by decide, lwG_at 383 (by decide +kernel)⟩, rfl, by decide, rfl⟩
theorem lkM_may : lnk mM_may 44 0 := ⟨⟨by decide, lwG_at 1185 (by decide +kernel)⟩, rfl, by decide, rfl⟩
theorem op_may (C0 : lw_At p s m meth c b L xs) (hC : LCx s eX eM) (hL : L ≤ 3072) (ht : t + 6 ≤ L) (h : Rel σ σm) (kk : ∀ τ τm, Rel τ τm → LW p l e s m below meth c b eX eM 1278 (nI t) [] τ τm) : LW p l e s m below meth c b eX eM 404 (nI t) [] σ σm :=
  L_op (n := 0) C0 hC hL ht (by decide) (ix := 41) (im := 44) (bOp_ok (by decide +kernel)) (by decide +kernel) lkX_may lkM_may (P_may h) kk
theorem lkX_why : lnk mX_why 45 1 := ⟨⟨by decide, lwG_at 399 (by decide +kernel)⟩, rfl, by decide, rfl⟩
theorem lkM_why : lnk mM_why 48 1 := ⟨⟨by decide, lwG_at 1197 (by decide +kernel)⟩, rfl, by decide, rfl⟩
theorem op_why (C0 : lw_At p s m meth c b L xs) (hC : LCx s eX eM) (hL : L ≤ 3072) (ht : t + 6 ≤ L) (h : Rel σ σm) (kk : ∀ τ τm, Rel τ τm → LW p l e s m below meth c b eX eM 1278 (nI t) [] τ τm) : LW p l e s m below meth c b eX eM 417 (nI t) [] σ σm :=
  L_op (n := 1) C0 hC hL ht (by decide) (ix := 45) (im := 48) (bOp_ok (by decide +kernel)) (by decide +kernel) lkX_why lkM_why (P_why h) kk
theorem lkX_off : lnk mX_off 49 1 := ⟨⟨by decide, lwG_at 407 (by decide +kernel)⟩, rfl, by decide, rfl⟩
theorem lkM_off : lnk mM_off 52 1 := ⟨⟨by decide, lwG_at 1201 (by decide +kernel)⟩, rfl, by decide, rfl⟩
theorem op_off (C0 : lw_At p s m meth c b L xs) (hC : LCx s eX eM) (hL : L ≤ 3072) (ht : t + 6 ≤ L) (h : Rel σ σm) (kk : ∀ τ τm, Rel τ τm → LW p l e s m below meth c b eX eM 1278 (nI t) [] τ τm) : LW p l e s m below meth c b eX eM 440 (nI t) [] σ σm :=
  L_op (n := 1) C0 hC hL ht (by decide) (ix := 49) (im := 52) (bOp_ok (by decide +kernel)) (by decide +kernel) lkX_off lkM_off (P_off h) kk
theorem lkX_now : lnk mX_now 53 1 := ⟨⟨by decide, lwG_at 423 (by decide +kernel)⟩, rfl, by decide, rfl⟩
theorem lkM_now : lnk mM_now 56 1 := ⟨⟨by decide, lwG_at 1218 (by decide +kernel)⟩, rfl, by decide, rfl⟩
theorem op_now (C0 : lw_At p s m meth c b L xs) (hC : LCx s eX eM) (hL : L ≤ 3072) (ht : t + 6 ≤ L) (h : Rel σ σm) (kk : ∀ τ τm, Rel τ τm → LW p l e s m below meth c b eX eM 1278 (nI t) [] τ τm) : LW p l e s m below meth c b eX eM 463 (nI t) [] σ σm :=
  L_op (n := 1) C0 hC hL ht (by decide) (ix := 53) (im := 56) (bOp_ok (by decide +kernel)) (by decide +kernel) lkX_now lkM_now (P_now h) kk
theorem lkX_soonest : lnk mX_soonest 57 0 := ⟨⟨by decide, lwG_at 434 (by decide +kernel)⟩, rfl, by decide, rfl⟩
theorem lkM_soonest : lnk mM_soonest 60 0 := ⟨⟨by decide, lwG_at 1226 (by decide +kernel)⟩, rfl, by decide, rfl⟩
theorem op_soonest (C0 : lw_At p s m meth c b L xs) (hC : LCx s eX eM) (hL : L ≤ 3072) (ht : t + 6 ≤ L) (h : Rel σ σm) (kk : ∀ τ τm, Rel τ τm → LW p l e s m below meth c b eX eM 1278 (nI t) [] τ τm) : LW p l e s m below meth c b eX eM 486 (nI t) [] σ σm :=
  L_op (n := 0) C0 hC hL ht (by decide) (ix := 57) (im := 60) (bOp_ok (by decide +kernel)) (by decide +kernel) lkX_soonest lkM_soonest (P_soonest h) kk
theorem lkX_ith : lnk mX_ith 61 1 := ⟨⟨by decide, lwG_at 481 (by decide +kernel)⟩, rfl, by decide, rfl⟩
theorem lkM_ith : lnk mM_ith 64 1 := ⟨⟨by decide, lwG_at 1243 (by decide +kernel)⟩, rfl, by decide, rfl⟩
theorem op_ith (C0 : lw_At p s m meth c b L xs) (hC : LCx s eX eM) (hL : L ≤ 3072) (ht : t + 6 ≤ L) (h : Rel σ σm) (kk : ∀ τ τm, Rel τ τm → LW p l e s m below meth c b eX eM 1278 (nI t) [] τ τm) : LW p l e s m below meth c b eX eM 499 (nI t) [] σ σm :=
  L_op (n := 1) C0 hC hL ht (by decide) (ix := 61) (im := 64) (bOp_ok (by decide +kernel)) (by decide +kernel) lkX_ith lkM_ith (P_ith h) kk
theorem lkX_quietest : lnk mX_quietest 65 0 := ⟨⟨by decide, lwG_at 502 (by decide +kernel)⟩, rfl, by decide, rfl⟩
theorem lkM_quietest : lnk mM_quietest 68 0 := ⟨⟨by decide, lwG_at 1251 (by decide +kernel)⟩, rfl, by decide, rfl⟩
theorem op_quietest (C0 : lw_At p s m meth c b L xs) (hC : LCx s eX eM) (hL : L ≤ 3072) (ht : t + 6 ≤ L) (h : Rel σ σm) (kk : ∀ τ τm, Rel τ τm → LW p l e s m below meth c b eX eM 1278 (nI t) [] τ τm) : LW p l e s m below meth c b eX eM 522 (nI t) [] σ σm :=
  L_op (n := 0) C0 hC hL ht (by decide) (ix := 65) (im := 68) (bOp_ok (by decide +kernel)) (by decide +kernel) lkX_quietest lkM_quietest (P_quietest h) kk
theorem lkX_fewest : lnk mX_fewest 69 0 := ⟨⟨by decide, lwG_at 506 (by decide +kernel)⟩, rfl, by decide, rfl⟩
theorem lkM_fewest : lnk mM_fewest 72 0 := ⟨⟨by decide, lwG_at 1255 (by decide +kernel)⟩, rfl, by decide, rfl⟩
theorem op_fewest (C0 : lw_At p s m meth c b L xs) (hC : LCx s eX eM) (hL : L ≤ 3072) (ht : t + 6 ≤ L) (h : Rel σ σm) (kk : ∀ τ τm, Rel τ τm → LW p l e s m below meth c b eX eM 1278 (nI t) [] τ τm) : LW p l e s m below meth c b eX eM 535 (nI t) [] σ σm :=
  L_op (n := 0) C0 hC hL ht (by decide) (ix := 69) (im := 72) (bOp_ok (by decide +kernel)) (by decide +kernel) lkX_fewest lkM_fewest (P_fewest h) kk
theorem lkX_ahead : lnk mX_ahead 73 1 := ⟨⟨by decide, lwG_at 510 (by decide +kernel)⟩, rfl, by decide, rfl⟩
theorem lkM_ahead : lnk mM_ahead 76 1 := ⟨⟨by decide, lwG_at 1259 (by decide +kernel)⟩, rfl, by decide, rfl⟩
theorem op_ahead (C0 : lw_At p s m meth c b L xs) (hC : LCx s eX eM) (hL : L ≤ 3072) (ht : t + 6 ≤ L) (h : Rel σ σm) (kk : ∀ τ τm, Rel τ τm → LW p l e s m below meth c b eX eM 1278 (nI t) [] τ τm) : LW p l e s m below meth c b eX eM 548 (nI t) [] σ σm :=
  L_op (n := 1) C0 hC hL ht (by decide) (ix := 73) (im := 76) (bOp_ok (by decide +kernel)) (by decide +kernel) lkX_ahead lkM_ahead (P_ahead h) kk
theorem lkX_ever : lnk mX_ever 77 0 := ⟨⟨by decide, lwG_at 523 (by decide +kernel)⟩, rfl, by decide, rfl⟩
theorem lkM_ever : lnk mM_ever 80 0 := ⟨⟨by decide, lwG_at 1271 (by decide +kernel)⟩, rfl, by decide, rfl⟩
theorem op_ever (C0 : lw_At p s m meth c b L xs) (hC : LCx s eX eM) (hL : L ≤ 3072) (ht : t + 6 ≤ L) (h : Rel σ σm) (kk : ∀ τ τm, Rel τ τm → LW p l e s m below meth c b eX eM 1278 (nI t) [] τ τm) : LW p l e s m below meth c b eX eM 571 (nI t) [] σ σm :=
  L_op (n := 0) C0 hC hL ht (by decide) (ix := 77) (im := 80) (bOp_ok (by decide +kernel)) (by decide +kernel) lkX_ever lkM_ever (P_ever h) kk
theorem lkX_states : lnk mX_states 81 0 := ⟨⟨by decide, lwG_at 531 (by decide +kernel)⟩, rfl, by decide, rfl⟩
theorem lkM_states : lnk mM_states 84 0 := ⟨⟨by decide, lwG_at 1279 (by decide +kernel)⟩, rfl, by decide, rfl⟩
theorem op_states (C0 : lw_At p s m meth c b L xs) (hC : LCx s eX eM) (hL : L ≤ 3072) (ht : t + 6 ≤ L) (h : Rel σ σm) (kk : ∀ τ τm, Rel τ τm → LW p l e s m below meth c b eX eM 1278 (nI t) [] τ τm) : LW p l e s m below meth c b eX eM 584 (nI t) [] σ σm :=
  L_op (n := 0) C0 hC hL ht (by decide) (ix := 81) (im := 84) (bOp_ok (by decide +kernel)) (by decide +kernel) lkX_states lkM_states (P_states h) kk
theorem lkX_rows : lnk mX_rows 85 0 := ⟨⟨by decide, lwG_at 539 (by decide +kernel)⟩, rfl, by decide, rfl⟩
theorem lkM_rows : lnk mM_rows 88 0 := ⟨⟨by decide, lwG_at 1283 (by decide +kernel)⟩, rfl, by decide, rfl⟩
theorem op_rows (C0 : lw_At p s m meth c b L xs) (hC : LCx s eX eM) (hL : L ≤ 3072) (ht : t + 6 ≤ L) (h : Rel σ σm) (kk : ∀ τ τm, Rel τ τm → LW p l e s m below meth c b eX eM 1278 (nI t) [] τ τm) : LW p l e s m below meth c b eX eM 597 (nI t) [] σ σm :=
  L_op (n := 0) C0 hC hL ht (by decide) (ix := 85) (im := 88) (bOp_ok (by decide +kernel)) (by decide +kernel) lkX_rows lkM_rows (P_rows h) kk
theorem lkX_tools : lnk mX_tools 89 0 := ⟨⟨by decide, lwG_at 555 (by decide +kernel)⟩, rfl, by decide, rfl⟩
theorem lkM_tools : lnk mM_tools 92 0 := ⟨⟨by decide, lwG_at 1287 (by decide +kernel)⟩, rfl, by decide, rfl⟩
theorem op_tools (C0 : lw_At p s m meth c b L xs) (hC : LCx s eX eM) (hL : L ≤ 3072) (ht : t + 6 ≤ L) (h : Rel σ σm) (kk : ∀ τ τm, Rel τ τm → LW p l e s m below meth c b eX eM 1278 (nI t) [] τ τm) : LW p l e s m below meth c b eX eM 610 (nI t) [] σ σm :=
  L_op (n := 0) C0 hC hL ht (by decide) (ix := 89) (im := 92) (bOp_ok (by decide +kernel)) (by decide +kernel) lkX_tools lkM_tools (P_tools h) kk
theorem lkX_spare : lnk mX_spare 93 0 := ⟨⟨by decide, lwG_at 569 (by decide +kernel)⟩, rfl, by decide, rfl⟩
theorem lkM_spare : lnk mM_spare 96 0 := ⟨⟨by decide, lwG_at 1291 (by decide +kernel)⟩, rfl, by decide, rfl⟩
theorem op_spare (C0 : lw_At p s m meth c b L xs) (hC : LCx s eX eM) (hL : L ≤ 3072) (ht : t + 6 ≤ L) (h : Rel σ σm) (kk : ∀ τ τm, Rel τ τm → LW p l e s m below meth c b eX eM 1278 (nI t) [] τ τm) : LW p l e s m below meth c b eX eM 623 (nI t) [] σ σm :=
  L_op (n := 0) C0 hC hL ht (by decide) (ix := 93) (im := 96) (bOp_ok (by decide +kernel)) (by decide +kernel) lkX_spare lkM_spare (P_spare h) kk
theorem lkX_wire : lnk mX_wire 97 0 := ⟨⟨by decide, lwG_at 577 (by decide +kernel)⟩, rfl, by decide, rfl⟩
theorem lkM_wire : lnk mM_wire 100 0 := ⟨⟨by decide, lwG_at 1295 (by decide +kernel)⟩, rfl, by decide, rfl⟩
theorem op_wire (C0 : lw_At p s m meth c b L xs) (hC : LCx s eX eM) (hL : L ≤ 3072) (ht : t + 6 ≤ L) (h : Rel σ σm) (kk : ∀ τ τm, Rel τ τm → LW p l e s m below meth c b eX eM 1278 (nI t) [] τ τm) : LW p l e s m below meth c b eX eM 636 (nI t) [] σ σm :=
  L_op (n := 0) C0 hC hL ht (by decide) (ix := 97) (im := 100) (bOp_ok (by decide +kernel)) (by decide +kernel) lkX_wire lkM_wire (P_wire h) kk
theorem lkX_kindFor : lnk mX_kindFor 101 1 := ⟨⟨by decide, lwG_at 587 (by decide +kernel)⟩, rfl, by decide, rfl⟩
theorem lkM_kindFor : lnk mM_kindFor 104 1 := ⟨⟨by decide, lwG_at 1299 (by decide +kernel)⟩, rfl, by decide, rfl⟩
theorem op_kindFor (C0 : lw_At p s m meth c b L xs) (hC : LCx s eX eM) (hL : L ≤ 3072) (ht : t + 6 ≤ L) (h : Rel σ σm) (kk : ∀ τ τm, Rel τ τm → LW p l e s m below meth c b eX eM 1278 (nI t) [] τ τm) : LW p l e s m below meth c b eX eM 649 (nI t) [] σ σm :=
  L_op (n := 1) C0 hC hL ht (by decide) (ix := 101) (im := 104) (bOp_ok (by decide +kernel)) (by decide +kernel) lkX_kindFor lkM_kindFor (P_kindFor h) kk
theorem lkX_link : lnk mX_link 105 0 := ⟨⟨by decide, lwG_at 599 (by decide +kernel)⟩, rfl, by decide, rfl⟩
theorem lkM_link : lnk mM_link 108 0 := ⟨⟨by decide, lwG_at 1303 (by decide +kernel)⟩, rfl, by decide, rfl⟩
theorem op_link (C0 : lw_At p s m meth c b L xs) (hC : LCx s eX eM) (hL : L ≤ 3072) (ht : t + 6 ≤ L) (h : Rel σ σm) (kk : ∀ τ τm, Rel τ τm → LW p l e s m below meth c b eX eM 1278 (nI t) [] τ τm) : LW p l e s m below meth c b eX eM 672 (nI t) [] σ σm :=
  L_op (n := 0) C0 hC hL ht (by decide) (ix := 105) (im := 108) (bOp_ok (by decide +kernel)) (by decide +kernel) lkX_link lkM_link (P_link h) kk
theorem lkX_linked : lnk mX_linked 109 0 := ⟨⟨by decide, lwG_at 619 (by decide +kernel)⟩, rfl, by decide, rfl⟩
theorem lkM_linked : lnk mM_linked 112 0 := ⟨⟨by decide, lwG_at 1311 (by decide +kernel)⟩, rfl, by decide, rfl⟩
theorem op_linked (C0 : lw_At p s m meth c b L xs) (hC : LCx s eX eM) (hL : L ≤ 3072) (ht : t + 6 ≤ L) (h : Rel σ σm) (kk : ∀ τ τm, Rel τ τm → LW p l e s m below meth c b eX eM 1278 (nI t) [] τ τm) : LW p l e s m below meth c b eX eM 685 (nI t) [] σ σm :=
  L_op (n := 0) C0 hC hL ht (by decide) (ix := 109) (im := 112) (bOp_ok (by decide +kernel)) (by decide +kernel) lkX_linked lkM_linked (P_linked h) kk
theorem lkX_spared : lnk mX_spared 113 0 := ⟨⟨by decide, lwG_at 627 (by decide +kernel)⟩, rfl, by decide, rfl⟩
theorem lkM_spared : lnk mM_spared 116 0 := ⟨⟨by decide, lwG_at 1315 (by decide +kernel)⟩, rfl, by decide, rfl⟩
theorem op_spared (C0 : lw_At p s m meth c b L xs) (hC : LCx s eX eM) (hL : L ≤ 3072) (ht : t + 6 ≤ L) (h : Rel σ σm) (kk : ∀ τ τm, Rel τ τm → LW p l e s m below meth c b eX eM 1278 (nI t) [] τ τm) : LW p l e s m below meth c b eX eM 698 (nI t) [] σ σm :=
  L_op (n := 0) C0 hC hL ht (by decide) (ix := 113) (im := 116) (bOp_ok (by decide +kernel)) (by decide +kernel) lkX_spared lkM_spared (P_spared h) kk
theorem lkX_surest : lnk mX_surest 117 1 := ⟨⟨by decide, lwG_at 639 (by decide +kernel)⟩, rfl, by decide, rfl⟩
theorem lkM_surest : lnk mM_surest 121 1 := ⟨⟨by decide, lwG_at 1319 (by decide +kernel)⟩, rfl, by decide, rfl⟩
theorem op_surest (C0 : lw_At p s m meth c b L xs) (hC : LCx s eX eM) (hL : L ≤ 3072) (ht : t + 6 ≤ L) (h : Rel σ σm) (kk : ∀ τ τm, Rel τ τm → LW p l e s m below meth c b eX eM 1278 (nI t) [] τ τm) : LW p l e s m below meth c b eX eM 711 (nI t) [] σ σm :=
  L_opL (n := 1) C0 hC hL ht (by decide) (ix := 117) (im := 121) (bOp_ok (by decide +kernel)) (by decide +kernel) (by decide +kernel) lkX_surest lkM_surest (P_surest h) kk
theorem lkX_fits : lnk mX_fits 122 1 := ⟨⟨by decide, lwG_at 661 (by decide +kernel)⟩, rfl, by decide, rfl⟩
theorem lkM_fits : lnk mM_fits 125 1 := ⟨⟨by decide, lwG_at 1324 (by decide +kernel)⟩, rfl, by decide, rfl⟩
theorem op_fits (C0 : lw_At p s m meth c b L xs) (hC : LCx s eX eM) (hL : L ≤ 3072) (ht : t + 6 ≤ L) (h : Rel σ σm) (kk : ∀ τ τm, Rel τ τm → LW p l e s m below meth c b eX eM 1278 (nI t) [] τ τm) : LW p l e s m below meth c b eX eM 735 (nI t) [] σ σm :=
  L_op (n := 1) C0 hC hL ht (by decide) (ix := 122) (im := 125) (bOp_ok (by decide +kernel)) (by decide +kernel) lkX_fits lkM_fits (P_fits h) kk
theorem lkX_maybe : lnk mX_maybe 126 1 := ⟨⟨by decide, lwG_at 705 (by decide +kernel)⟩, rfl, by decide, rfl⟩
theorem lkM_maybe : lnk mM_maybe 129 1 := ⟨⟨by decide, lwG_at 1343 (by decide +kernel)⟩, rfl, by decide, rfl⟩
theorem op_maybe (C0 : lw_At p s m meth c b L xs) (hC : LCx s eX eM) (hL : L ≤ 3072) (ht : t + 6 ≤ L) (h : Rel σ σm) (kk : ∀ τ τm, Rel τ τm → LW p l e s m below meth c b eX eM 1278 (nI t) [] τ τm) : LW p l e s m below meth c b eX eM 758 (nI t) [] σ σm :=
  L_op (n := 1) C0 hC hL ht (by decide) (ix := 126) (im := 129) (bOp_ok (by decide +kernel)) (by decide +kernel) lkX_maybe lkM_maybe (P_maybe h) kk
theorem lkX_surely : lnk mX_surely 130 1 := ⟨⟨by decide, lwG_at 713 (by decide +kernel)⟩, rfl, by decide, rfl⟩
theorem lkM_surely : lnk mM_surely 133 1 := ⟨⟨by decide, lwG_at 1355 (by decide +kernel)⟩, rfl, by decide, rfl⟩
theorem op_surely (C0 : lw_At p s m meth c b L xs) (hC : LCx s eX eM) (hL : L ≤ 3072) (ht : t + 6 ≤ L) (h : Rel σ σm) (kk : ∀ τ τm, Rel τ τm → LW p l e s m below meth c b eX eM 1278 (nI t) [] τ τm) : LW p l e s m below meth c b eX eM 781 (nI t) [] σ σm :=
  L_op (n := 1) C0 hC hL ht (by decide) (ix := 130) (im := 133) (bOp_ok (by decide +kernel)) (by decide +kernel) lkX_surely lkM_surely (P_surely h) kk
theorem lkX_hear : lnk mX_hear 134 1 := ⟨⟨by decide, lwG_at 721 (by decide +kernel)⟩, rfl, by decide, rfl⟩
theorem lkM_hear : lnk mM_hear 137 1 := ⟨⟨by decide, lwG_at 1359 (by decide +kernel)⟩, rfl, by decide, rfl⟩
theorem op_hear (C0 : lw_At p s m meth c b L xs) (hC : LCx s eX eM) (hL : L ≤ 3072) (ht : t + 6 ≤ L) (h : Rel σ σm) (kk : ∀ τ τm, Rel τ τm → LW p l e s m below meth c b eX eM 1278 (nI t) [] τ τm) : LW p l e s m below meth c b eX eM 804 (nI t) [] σ σm :=
  L_op (n := 1) C0 hC hL ht (by decide) (ix := 134) (im := 137) (bOp_ok (by decide +kernel)) (by decide +kernel) lkX_hear lkM_hear (P_hear h) kk
theorem lkX_friday : lnk mX_friday 138 1 := ⟨⟨by decide, lwG_at 725 (by decide +kernel)⟩, rfl, by decide, rfl⟩
theorem lkM_friday : lnk mM_friday 141 1 := ⟨⟨by decide, lwG_at 1363 (by decide +kernel)⟩, rfl, by decide, rfl⟩
theorem op_friday (C0 : lw_At p s m meth c b L xs) (hC : LCx s eX eM) (hL : L ≤ 3072) (ht : t + 6 ≤ L) (h : Rel σ σm) (kk : ∀ τ τm, Rel τ τm → LW p l e s m below meth c b eX eM 1278 (nI t) [] τ τm) : LW p l e s m below meth c b eX eM 827 (nI t) [] σ σm :=
  L_op (n := 1) C0 hC hL ht (by decide) (ix := 138) (im := 141) (bOp_ok (by decide +kernel)) (by decide +kernel) lkX_friday lkM_friday (P_friday h) kk
theorem lkX_seed : lnk mX_seed 142 1 := ⟨⟨by decide, lwG_at 746 (by decide +kernel)⟩, rfl, by decide, rfl⟩
theorem lkM_seed : lnk mM_seed 145 1 := ⟨⟨by decide, lwG_at 1377 (by decide +kernel)⟩, rfl, by decide, rfl⟩
theorem op_seed (C0 : lw_At p s m meth c b L xs) (hC : LCx s eX eM) (hL : L ≤ 3072) (ht : t + 6 ≤ L) (h : Rel σ σm) (kk : ∀ τ τm, Rel τ τm → LW p l e s m below meth c b eX eM 1278 (nI t) [] τ τm) : LW p l e s m below meth c b eX eM 850 (nI t) [] σ σm :=
  L_op (n := 1) C0 hC hL ht (by decide) (ix := 142) (im := 145) (bOp_ok (by decide +kernel)) (by decide +kernel) lkX_seed lkM_seed (P_seed h) kk
theorem lkX_feed : lnk mX_feed 146 2 := ⟨⟨by decide, lwG_at 750 (by decide +kernel)⟩, rfl, by decide, rfl⟩
theorem lkM_feed : lnk mM_feed 149 2 := ⟨⟨by decide, lwG_at 1381 (by decide +kernel)⟩, rfl, by decide, rfl⟩
theorem op_feed (C0 : lw_At p s m meth c b L xs) (hC : LCx s eX eM) (hL : L ≤ 3072) (ht : t + 6 ≤ L) (h : Rel σ σm) (kk : ∀ τ τm, Rel τ τm → LW p l e s m below meth c b eX eM 1278 (nI t) [] τ τm) : LW p l e s m below meth c b eX eM 873 (nI t) [] σ σm :=
  L_op (n := 2) C0 hC hL ht (by decide) (ix := 146) (im := 149) (bOp_ok (by decide +kernel)) (by decide +kernel) lkX_feed lkM_feed (P_feed h) kk
theorem lkX_wipe : lnk mX_wipe 150 0 := ⟨⟨by decide, lwG_at 762 (by decide +kernel)⟩, rfl, by decide, rfl⟩
theorem lkM_wipe : lnk mM_wipe 153 0 := ⟨⟨by decide, lwG_at 1385 (by decide +kernel)⟩, rfl, by decide, rfl⟩
theorem op_wipe (C0 : lw_At p s m meth c b L xs) (hC : LCx s eX eM) (hL : L ≤ 3072) (ht : t + 6 ≤ L) (h : Rel σ σm) (kk : ∀ τ τm, Rel τ τm → LW p l e s m below meth c b eX eM 1278 (nI t) [] τ τm) : LW p l e s m below meth c b eX eM 906 (nI t) [] σ σm :=
  L_op (n := 0) C0 hC hL ht (by decide) (ix := 150) (im := 153) (bOp_ok (by decide +kernel)) (by decide +kernel) lkX_wipe lkM_wipe (P_wipe h) kk
theorem lkX_text : lnk mX_text 154 0 := ⟨⟨by decide, lwG_at 770 (by decide +kernel)⟩, rfl, by decide, rfl⟩
theorem lkM_text : lnk mM_text 157 0 := ⟨⟨by decide, lwG_at 1389 (by decide +kernel)⟩, rfl, by decide, rfl⟩
theorem op_text (C0 : lw_At p s m meth c b L xs) (hC : LCx s eX eM) (hL : L ≤ 3072) (ht : t + 6 ≤ L) (h : Rel σ σm) (kk : ∀ τ τm, Rel τ τm → LW p l e s m below meth c b eX eM 1278 (nI t) [] τ τm) : LW p l e s m below meth c b eX eM 919 (nI t) [] σ σm :=
  L_op (n := 0) C0 hC hL ht (by decide) (ix := 154) (im := 157) (bOp_ok (by decide +kernel)) (by decide +kernel) lkX_text lkM_text (P_text h) kk
theorem lkX_hold : lnk mX_hold 158 2 := ⟨⟨by decide, lwG_at 904 (by decide +kernel)⟩, rfl, by decide, rfl⟩
theorem lkM_hold : lnk mM_hold 161 2 := ⟨⟨by decide, lwG_at 1424 (by decide +kernel)⟩, rfl, by decide, rfl⟩
theorem op_hold (C0 : lw_At p s m meth c b L xs) (hC : LCx s eX eM) (hL : L ≤ 3072) (ht : t + 6 ≤ L) (h : Rel σ σm) (kk : ∀ τ τm, Rel τ τm → LW p l e s m below meth c b eX eM 1278 (nI t) [] τ τm) : LW p l e s m below meth c b eX eM 932 (nI t) [] σ σm :=
  L_op (n := 2) C0 hC hL ht (by decide) (ix := 158) (im := 161) (bOp_ok (by decide +kernel)) (by decide +kernel) lkX_hold lkM_hold (P_hold h) kk
theorem lkX_as : lnk mX_as 162 2 := ⟨⟨by decide, lwG_at 916 (by decide +kernel)⟩, rfl, by decide, rfl⟩
theorem lkM_as : lnk mM_as 165 2 := ⟨⟨by decide, lwG_at 1431 (by decide +kernel)⟩, rfl, by decide, rfl⟩
theorem op_as (C0 : lw_At p s m meth c b L xs) (hC : LCx s eX eM) (hL : L ≤ 3072) (ht : t + 6 ≤ L) (h : Rel σ σm) (kk : ∀ τ τm, Rel τ τm → LW p l e s m below meth c b eX eM 1278 (nI t) [] τ τm) : LW p l e s m below meth c b eX eM 965 (nI t) [] σ σm :=
  L_op (n := 2) C0 hC hL ht (by decide) (ix := 162) (im := 165) (bOp_ok (by decide +kernel)) (by decide +kernel) lkX_as lkM_as (P_as h) kk
theorem lkX_sheet : lnk mX_sheet 166 3 := ⟨⟨by decide, lwG_at 931 (by decide +kernel)⟩, rfl, by decide, rfl⟩
theorem lkM_sheet : lnk mM_sheet 169 3 := ⟨⟨by decide, lwG_at 1438 (by decide +kernel)⟩, rfl, by decide, rfl⟩
theorem op_sheet (C0 : lw_At p s m meth c b L xs) (hC : LCx s eX eM) (hL : L ≤ 3072) (ht : t + 6 ≤ L) (h : Rel σ σm) (kk : ∀ τ τm, Rel τ τm → LW p l e s m below meth c b eX eM 1278 (nI t) [] τ τm) : LW p l e s m below meth c b eX eM 998 (nI t) [] σ σm :=
  L_op (n := 3) C0 hC hL ht (by decide) (ix := 166) (im := 169) (bOp_ok (by decide +kernel)) (by decide +kernel) lkX_sheet lkM_sheet (P_sheet h) kk
theorem lkX_write : lnk mX_write 170 3 := ⟨⟨by decide, lwG_at 948 (by decide +kernel)⟩, rfl, by decide, rfl⟩
theorem lkM_write : lnk mM_write 173 3 := ⟨⟨by decide, lwG_at 1442 (by decide +kernel)⟩, rfl, by decide, rfl⟩
theorem op_write (C0 : lw_At p s m meth c b L xs) (hC : LCx s eX eM) (hL : L ≤ 3072) (ht : t + 6 ≤ L) (h : Rel σ σm) (kk : ∀ τ τm, Rel τ τm → LW p l e s m below meth c b eX eM 1278 (nI t) [] τ τm) : LW p l e s m below meth c b eX eM 1041 (nI t) [] σ σm :=
  L_op (n := 3) C0 hC hL ht (by decide) (ix := 170) (im := 173) (bOp_ok (by decide +kernel)) (by decide +kernel) lkX_write lkM_write (P_write h) kk
theorem lkX_copy : lnk mX_copy 174 5 := ⟨⟨by decide, lwG_at 957 (by decide +kernel)⟩, rfl, by decide, rfl⟩
theorem lkM_copy : lnk mM_copy 178 5 := ⟨⟨by decide, lwG_at 1446 (by decide +kernel)⟩, rfl, by decide, rfl⟩
theorem op_copy (C0 : lw_At p s m meth c b L xs) (hC : LCx s eX eM) (hL : L ≤ 3072) (ht : t + 6 ≤ L) (h : Rel σ σm) (kk : ∀ τ τm, Rel τ τm → LW p l e s m below meth c b eX eM 1278 (nI t) [] τ τm) : LW p l e s m below meth c b eX eM 1084 (nI t) [] σ σm :=
  L_op (n := 5) C0 hC hL ht (by decide) (ix := 174) (im := 178) (bOp_ok (by decide +kernel)) (by decide +kernel) lkX_copy lkM_copy (P_copy h) kk
theorem lkX_load : lnk mX_load 179 1 := ⟨⟨by decide, lwG_at 975 (by decide +kernel)⟩, rfl, by decide, rfl⟩
theorem lkM_load : lnk mM_load 182 1 := ⟨⟨by decide, lwG_at 1450 (by decide +kernel)⟩, rfl, by decide, rfl⟩
theorem op_load (C0 : lw_At p s m meth c b L xs) (hC : LCx s eX eM) (hL : L ≤ 3072) (ht : t + 6 ≤ L) (h : Rel σ σm) (kk : ∀ τ τm, Rel τ τm → LW p l e s m below meth c b eX eM 1278 (nI t) [] τ τm) : LW p l e s m below meth c b eX eM 1147 (nI t) [] σ σm :=
  L_op (n := 1) C0 hC hL ht (by decide) (ix := 179) (im := 182) (bOp_ok (by decide +kernel)) (by decide +kernel) lkX_load lkM_load (P_load h) kk
theorem lkX_judge : lnk mX_judge 183 1 := ⟨⟨by decide, lwG_at 986 (by decide +kernel)⟩, rfl, by decide, rfl⟩
theorem lkM_judge : lnk mM_judge 186 1 := ⟨⟨by decide, lwG_at 1454 (by decide +kernel)⟩, rfl, by decide, rfl⟩
theorem op_judge (C0 : lw_At p s m meth c b L xs) (hC : LCx s eX eM) (hL : L ≤ 3072) (ht : t + 6 ≤ L) (h : Rel σ σm) (kk : ∀ τ τm, Rel τ τm → LW p l e s m below meth c b eX eM 1278 (nI t) [] τ τm) : LW p l e s m below meth c b eX eM 1170 (nI t) [] σ σm :=
  L_op (n := 1) C0 hC hL ht (by decide) (ix := 183) (im := 186) (bOp_ok (by decide +kernel)) (by decide +kernel) lkX_judge lkM_judge (P_judge h) kk
theorem lkX_image : lnk mX_image 187 0 := ⟨⟨by decide, lwG_at 995 (by decide +kernel)⟩, rfl, by decide, rfl⟩
theorem lkM_image : lnk mM_image 190 0 := ⟨⟨by decide, lwG_at 1458 (by decide +kernel)⟩, rfl, by decide, rfl⟩
theorem op_image (C0 : lw_At p s m meth c b L xs) (hC : LCx s eX eM) (hL : L ≤ 3072) (ht : t + 6 ≤ L) (h : Rel σ σm) (kk : ∀ τ τm, Rel τ τm → LW p l e s m below meth c b eX eM 1278 (nI t) [] τ τm) : LW p l e s m below meth c b eX eM 1193 (nI t) [] σ σm :=
  L_op (n := 0) C0 hC hL ht (by decide) (ix := 187) (im := 190) (bOp_ok (by decide +kernel)) (by decide +kernel) lkX_image lkM_image (P_image h) kk
theorem lkX_undo : lnk mX_undo 191 0 := ⟨⟨by decide, lwG_at 999 (by decide +kernel)⟩, rfl, by decide, rfl⟩
theorem lkM_undo : lnk mM_undo 194 0 := ⟨⟨by decide, lwG_at 1462 (by decide +kernel)⟩, rfl, by decide, rfl⟩
theorem op_undo (C0 : lw_At p s m meth c b L xs) (hC : LCx s eX eM) (hL : L ≤ 3072) (ht : t + 6 ≤ L) (h : Rel σ σm) (kk : ∀ τ τm, Rel τ τm → LW p l e s m below meth c b eX eM 1278 (nI t) [] τ τm) : LW p l e s m below meth c b eX eM 1206 (nI t) [] σ σm :=
  L_op (n := 0) C0 hC hL ht (by decide) (ix := 191) (im := 194) (bOp_ok (by decide +kernel)) (by decide +kernel) lkX_undo lkM_undo (P_undo h) kk
theorem lkX_tear : lnk mX_tear 195 0 := ⟨⟨by decide, lwG_at 1003 (by decide +kernel)⟩, rfl, by decide, rfl⟩
theorem lkM_tear : lnk mM_tear 198 0 := ⟨⟨by decide, lwG_at 1466 (by decide +kernel)⟩, rfl, by decide, rfl⟩
theorem op_tear (C0 : lw_At p s m meth c b L xs) (hC : LCx s eX eM) (hL : L ≤ 3072) (ht : t + 6 ≤ L) (h : Rel σ σm) (kk : ∀ τ τm, Rel τ τm → LW p l e s m below meth c b eX eM 1278 (nI t) [] τ τm) : LW p l e s m below meth c b eX eM 1219 (nI t) [] σ σm :=
  L_op (n := 0) C0 hC hL ht (by decide) (ix := 195) (im := 198) (bOp_ok (by decide +kernel)) (by decide +kernel) lkX_tear lkM_tear (P_tear h) kk
theorem lkX_count : lnk mX_count 199 1 := ⟨⟨by decide, lwG_at 1007 (by decide +kernel)⟩, rfl, by decide, rfl⟩
theorem lkM_count : lnk mM_count 202 1 := ⟨⟨by decide, lwG_at 1470 (by decide +kernel)⟩, rfl, by decide, rfl⟩
theorem op_count (C0 : lw_At p s m meth c b L xs) (hC : LCx s eX eM) (hL : L ≤ 3072) (ht : t + 6 ≤ L) (h : Rel σ σm) (kk : ∀ τ τm, Rel τ τm → LW p l e s m below meth c b eX eM 1278 (nI t) [] τ τm) : LW p l e s m below meth c b eX eM 1232 (nI t) [] σ σm :=
  L_op (n := 1) C0 hC hL ht (by decide) (ix := 199) (im := 202) (bOp_ok (by decide +kernel)) (by decide +kernel) lkX_count lkM_count (P_count h) kk
theorem lkX_status : lnk mX_status 203 1 := ⟨⟨by decide, lwG_at 1020 (by decide +kernel)⟩, rfl, by decide, rfl⟩
theorem lkM_status : lnk mM_status 206 1 := ⟨⟨by decide, lwG_at 1474 (by decide +kernel)⟩, rfl, by decide, rfl⟩
theorem op_status (C0 : lw_At p s m meth c b L xs) (hC : LCx s eX eM) (hL : L ≤ 3072) (ht : t + 6 ≤ L) (h : Rel σ σm) (kk : ∀ τ τm, Rel τ τm → LW p l e s m below meth c b eX eM 1278 (nI t) [] τ τm) : LW p l e s m below meth c b eX eM 1255 (nI t) [] σ σm :=
  L_op (n := 1) C0 hC hL ht (by decide) (ix := 203) (im := 206) (bOp_ok (by decide +kernel)) (by decide +kernel) lkX_status lkM_status (P_status h) kk
def lawT : List Nat := [236, 259, 292, 335, 368, 391, 404, 417, 440, 463, 486, 499, 522, 535, 548, 571, 584, 597, 610, 623, 636, 649, 672, 685, 698, 711, 735, 758, 781, 804, 827, 850, 873, 906, 919, 932, 965, 998, 1041, 1084, 1147, 1170, 1193, 1206, 1219, 1232, 1255]
theorem d33 : decode code 33 = .ok (.tableswitch 1245 0 46 #[203, 226, 259, 302, 335, 358, 371, 384, 407, 430, 453, 466, 489, 502, 515, 538, 551, 564, 577, 590, 603, 616, 639, 652, 665, 678, 702, 725, 748, 771, 794, 817, 840, 873, 886, 899, 932, 965, 1008, 1051, 1114, 1137, 1160, 1173, 1186, 1199, 1222], 203) := by decide +kernel
theorem op_all (C0 : lw_At p s m meth c b L xs) (hC : LCx s eX eM) (hL : L ≤ 3072) (ht : t + 6 ≤ L) (h : Rel σ σm) (kk : ∀ τ τm, Rel τ τm → LW p l e s m below meth c b eX eM 1278 (nI t) [] τ τm) : ∀ k, k < 47 → ∀ q, lawT[k]? = some q → LW p l e s m below meth c b eX eM q (nI t) [] σ σm := by
  intro k hk q hq
  match k, hk, hq with
  | 0, _, hq => cases hq; exact op_lock C0 hC hL ht h kk
  | 1, _, hq => cases hq; exact op_of C0 hC hL ht h kk
  | 2, _, hq => cases hq; exact op_change C0 hC hL ht h kk
  | 3, _, hq => cases hq; exact op_rule C0 hC hL ht h kk
  | 4, _, hq => cases hq; exact op_on C0 hC hL ht h kk
  | 5, _, hq => cases hq; exact op_shut C0 hC hL ht h kk
  | 6, _, hq => cases hq; exact op_may C0 hC hL ht h kk
  | 7, _, hq => cases hq; exact op_why C0 hC hL ht h kk
  | 8, _, hq => cases hq; exact op_off C0 hC hL ht h kk
  | 9, _, hq => cases hq; exact op_now C0 hC hL ht h kk
  | 10, _, hq => cases hq; exact op_soonest C0 hC hL ht h kk
  | 11, _, hq => cases hq; exact op_ith C0 hC hL ht h kk
  | 12, _, hq => cases hq; exact op_quietest C0 hC hL ht h kk
  | 13, _, hq => cases hq; exact op_fewest C0 hC hL ht h kk
  | 14, _, hq => cases hq; exact op_ahead C0 hC hL ht h kk
  | 15, _, hq => cases hq; exact op_ever C0 hC hL ht h kk
  | 16, _, hq => cases hq; exact op_states C0 hC hL ht h kk
  | 17, _, hq => cases hq; exact op_rows C0 hC hL ht h kk
  | 18, _, hq => cases hq; exact op_tools C0 hC hL ht h kk
  | 19, _, hq => cases hq; exact op_spare C0 hC hL ht h kk
  | 20, _, hq => cases hq; exact op_wire C0 hC hL ht h kk
  | 21, _, hq => cases hq; exact op_kindFor C0 hC hL ht h kk
  | 22, _, hq => cases hq; exact op_link C0 hC hL ht h kk
  | 23, _, hq => cases hq; exact op_linked C0 hC hL ht h kk
  | 24, _, hq => cases hq; exact op_spared C0 hC hL ht h kk
  | 25, _, hq => cases hq; exact op_surest C0 hC hL ht h kk
  | 26, _, hq => cases hq; exact op_fits C0 hC hL ht h kk
  | 27, _, hq => cases hq; exact op_maybe C0 hC hL ht h kk
  | 28, _, hq => cases hq; exact op_surely C0 hC hL ht h kk
  | 29, _, hq => cases hq; exact op_hear C0 hC hL ht h kk
  | 30, _, hq => cases hq; exact op_friday C0 hC hL ht h kk
  | 31, _, hq => cases hq; exact op_seed C0 hC hL ht h kk
  | 32, _, hq => cases hq; exact op_feed C0 hC hL ht h kk
  | 33, _, hq => cases hq; exact op_wipe C0 hC hL ht h kk
  | 34, _, hq => cases hq; exact op_text C0 hC hL ht h kk
  | 35, _, hq => cases hq; exact op_hold C0 hC hL ht h kk
  | 36, _, hq => cases hq; exact op_as C0 hC hL ht h kk
  | 37, _, hq => cases hq; exact op_sheet C0 hC hL ht h kk
  | 38, _, hq => cases hq; exact op_write C0 hC hL ht h kk
  | 39, _, hq => cases hq; exact op_copy C0 hC hL ht h kk
  | 40, _, hq => cases hq; exact op_load C0 hC hL ht h kk
  | 41, _, hq => cases hq; exact op_judge C0 hC hL ht h kk
  | 42, _, hq => cases hq; exact op_image C0 hC hL ht h kk
  | 43, _, hq => cases hq; exact op_undo C0 hC hL ht h kk
  | 44, _, hq => cases hq; exact op_tear C0 hC hL ht h kk
  | 45, _, hq => cases hq; exact op_count C0 hC hL ht h kk
  | 46, _, hq => cases hq; exact op_status C0 hC hL ht h kk
  | n + 47, h, _ => omega
end OPS
