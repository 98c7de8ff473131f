/-! the reference starts -/
def ini (vs : List Nat) (i : Nat) : Nat → Int32 := fun q => if q < i then nI (vs.getD q 0) else 0
theorem ini_s (vs : List Nat) (i : Nat) : upd (ini vs i) i (nI (vs.getD i 0)) = ini vs (i + 1) := by
  funext q
  rw [updI]
  unfold ini
  by_cases e : q = i
  · subst e
    rw [if_pos rfl, if_pos (Nat.lt_succ_self q)]
  · rw [if_neg e]
    by_cases h2 : q < i
    · rw [if_pos h2, if_pos (by omega)]
    · rw [if_neg h2, if_neg (by omega)]
def wdP (v : Nat) : Nat := if v < 6 then 1 else 2
def bPush (cc : ByteArray) (pc v : Nat) : Bool := decide (v < 128) && (if v < 6 then decide (decode cc pc = .ok (.iconst v, 1)) else decide (decode cc pc = .ok (.bipush v, 2)))
def bIni (cc : ByteArray) (t : Bool) (vs : List Nat) : Nat → Nat → Nat → Bool
  | _, _, 0 => true
  | pc, i, n + 1 => decide (decode cc pc = .ok (.dup, 1)) && (bPush cc (pc + 1) i && (bPush cc (pc + 1 + wdP i) (vs.getD i 0) && (decide (decode cc (pc + 1 + wdP i + wdP (vs.getD i 0)) = .ok (if t then .castore else .iastore, 1)) && bIni cc t vs (pc + 1 + wdP i + wdP (vs.getD i 0) + 1) (i + 1) n)))
def pcI (vs : List Nat) : Nat → Nat → Nat → Nat
  | pc, _, 0 => pc
  | pc, i, n + 1 => pcI vs (pc + 1 + wdP i + wdP (vs.getD i 0) + 1) (i + 1) n
theorem p128a : ∀ v : Nat, v < 128 → Int32.ofInt (v : Int) = nI v := by decide +kernel
theorem p128b : ∀ v : Nat, v < 128 → (Int8.ofInt (v : Int)).toInt32 = nI v := by decide +kernel
theorem p128c : ∀ v : Nat, v < 128 → vp_nar .char (nI v) = nI v := by decide +kernel
section BR
variable {p : Program} {l : Launch} {e : Env} {R : Room} {s : State} {m : MethodId} {args : Array Value} {below : List Frame} {meth : Method} {c : Code} {ev : EV} {own : String} {cc : ByteArray} {nL h h0 fr : Nat} {Q : State → Prop} {pc : Nat} {lv : List (Nat × Value)} {st : List Value} {L : List va_E} {kc ks : Nat}
theorem c_push {v : Nat} (B : BC ev own cc nL h h0 fr p s m args meth c) (hb : bPush cc pc v = true) (kk : CW p l e R s m args below meth c ev nL h Q (pc + wdP v) lv (.int (nI v) :: st) L kc ks) : CW p l e R s m args below meth c ev nL h Q pc lv st L kc ks := by
  unfold bPush at hb
  rw [Bool.and_eq_true, decide_eq_true_eq] at hb
  by_cases h6 : v < 6
  · rw [if_pos h6, decide_eq_true_eq] at hb
    unfold wdP at kk
    rw [if_pos h6] at kk
    exact c_ic B hb.2 (p128a v hb.1) kk
  · rw [if_neg h6, decide_eq_true_eq] at hb
    unfold wdP at kk
    rw [if_neg h6] at kk
    exact c_bi B hb.2 (p128b v hb.1) kk
theorem c_iadd {x y : Int32} (B : BC ev own cc nL h h0 fr p s m args meth c) (hd : decode cc pc = .ok (.iadd, 1)) (kk : CW p l e R s m args below meth c ev nL h Q (pc + 1) lv (.int (x + y) :: st) L kc ks) : CW p l e R s m args below meth c ev nL h Q pc lv (.int y :: .int x :: st) L kc ks := fun H locs ms hB hS hl =>
  lv_iadd B.1 B.2.1 hd (kk H locs ms hB hS hl)
theorem set_last {α : Type} (L0 : List α) (x y : α) {j : Nat} (hj : L0.length = j) : (L0 ++ [x]).set j y = L0 ++ [y] := by
  subst hj
  simp
theorem get_last {α : Type} (L0 : List α) (x : α) {j : Nat} (hj : L0.length = j) : (L0 ++ [x])[j]? = some x := by
  subst hj
  simp
/-- an array is given its first values -/
theorem c_ini {t : Bool} {vs : List Nat} {N j : Nat} {L0 : List va_E} (B : BC ev own cc nL h h0 fr p s m args meth c) (hj : L0.length = j) (hN : N ≤ 2000) : ∀ (n i pc : Nat), bIni cc t vs pc i n = true → i + n = N → CW p l e R s m args below meth c ev nL h Q (pcI vs pc i n) lv (.ref (h + j) :: st) (L0 ++ [.inl (ev.2.2 (if t then 101 else 100), N, .inl (ini vs N))]) kc ks → CW p l e R s m args below meth c ev nL h Q pc lv (.ref (h + j) :: st) (L0 ++ [.inl (ev.2.2 (if t then 101 else 100), N, .inl (ini vs i))]) kc ks := by
  intro n
  induction n with
  | zero =>
    intro i pc _ hi kk
    have e : i = N := by omega
    subst e
    exact kk
  | succ n ih =>
    intro i pc hb hi kk
    unfold bIni at hb
    simp only [Bool.and_eq_true, decide_eq_true_eq] at hb
    obtain ⟨b1, b2, b3, b4, b5⟩ := hb
    have hv : vs.getD i 0 < 128 := by
      have h3 := b3
      unfold bPush at h3
      rw [Bool.and_eq_true, decide_eq_true_eq] at h3
      exact h3.1
    have go := ih (i + 1) _ b5 (by omega) kk
    refine c_dup B b1 (c_push B b2 (c_push B b3 ?_))
    cases t with
    | true =>
      refine c_cast B b4 (get_last L0 _ hj) (by omega) hN ?_
      rw [set_last L0 _ _ hj, p128c _ hv, ini_s]
      exact go
    | false =>
      refine c_iast B b4 (get_last L0 _ hj) (by omega) hN ?_
      rw [set_last L0 _ _ hj, ini_s]
      exact go
theorem c_iniZ {t : Bool} {vs : List Nat} {N j pc' : Nat} {L0 : List va_E} {f : Nat → Int32} (B : BC ev own cc nL h h0 fr p s m args meth c) (hj : L0.length = j) (hb : bIni cc t vs pc 0 N = true) (hp : pcI vs pc 0 N = pc') (hN : N ≤ 2000) (hN0 : 0 ≤ N) (kk : CW p l e R s m args below meth c ev nL h Q pc' lv (.ref (h + j) :: st) (L0 ++ [.inl (ev.2.2 (if t then 101 else 100), N, .inl (ini vs N))]) kc ks) (hf : f = fun _ => 0 := by rfl) : CW p l e R s m args below meth c ev nL h Q pc lv (.ref (h + j) :: st) (L0 ++ [.inl (ev.2.2 (if t then 101 else 100), N, .inl f)]) kc ks := by
  subst hp
  have e0 : f = ini vs 0 := by
    rw [hf]
    funext q
    exact (if_neg (Nat.not_lt_zero q)).symm
  rw [e0]
  exact c_ini B hj hN N 0 pc hb (Nat.zero_add N) kk
end BR
def spF (f : Nat → Int32) (i : Nat) : Nat → Int32 := fun q => if 110 ≤ q ∧ q < 110 + i then -1 else f q
theorem spF_0 (f : Nat → Int32) : spF f 0 = f := by
  funext q
  exact if_neg (by omega)
theorem spF_s (f : Nat → Int32) (i : Nat) : upd (spF f i) (110 + i) (-1) = spF f (i + 1) := by
  funext q
  rw [updI]
  unfold spF
  by_cases e : q = 110 + i
  · rw [if_pos e, if_pos (by omega)]
  · rw [if_neg e]
    by_cases h2 : 110 ≤ q ∧ q < 110 + i
    · rw [if_pos h2, if_pos (by omega)]
    · rw [if_neg h2, if_neg (by omega)]
section BR
variable {p : Program} {l : Launch} {e : Env} {R : Room} {s : State} {m : MethodId} {args : Array Value} {below : List Frame} {meth : Method} {c : Code} {ev : EV} {own : String} {cc : ByteArray} {nL h h' h0 fr : Nat} {Q : State → Prop} {pc : Nat} {lv : List (Nat × Value)} {st : List Value} {L : List va_E} {kc ks : Nat}
theorem c_to {L2 : List va_E} (h : L = L2) (kk : CW p l e R s m args below meth c ev nL h' Q pc lv st L2 kc ks) : CW p l e R s m args below meth c ev nL h' Q pc lv st L kc ks := by
  subst h
  exact kk
theorem c_loopM {fs : List Value} {R0 : List va_E} {f : Nat → Int32} (B : BC ev "ChainedChestModel" prog_8_method_1_code 2 h h0 fr p s m args meth c) (hfs : fs[0]? = some (.ref (h + 1))) (kk : CW p l e R s m args below meth c ev 2 h Q 764 [(1, .int 10), (0, .ref h)] [] (.inr (6, fs) :: .inl (ev.2.2 100, 120, .inl (spF f 10)) :: R0) kc ks) : ∀ (k i : Nat), i + k = 10 → CW p l e R s m args below meth c ev 2 h Q 742 [(1, .int (nI i)), (0, .ref h)] [] (.inr (6, fs) :: .inl (ev.2.2 100, 120, .inl (spF f i)) :: R0) kc ks := by
  intro k
  induction k with
  | zero =>
    intro i hi
    have e : i = 10 := by omega
    subst e
    refine c_ild (n := 1) 0 B (by decide +kernel) rfl ?_
    refine c_bi (v := 10) (n := 10) B (by decide +kernel) rfl ?_
    exact c_ige (tgt := 764) (off := 19) B (by decide +kernel) (by decide) (by decide) kk
  | succ k ih =>
    intro i hi
    refine c_ild (n := 1) 0 B (by decide +kernel) rfl ?_
    refine c_bi (v := 10) (n := 10) B (by decide +kernel) rfl ?_
    refine c_ilt (tgt := 764) (off := 19) B (by decide +kernel) (by decide) (nI_ge (a := i) (b := 10) (by omega) (by decide)) ?_
    refine c_ald (n := 0) 1 B (by decide +kernel) rfl ?_
    refine c_get (i := 9) (ci := 6) (j := 0) (k := 0) (v := .ref (h + 1)) B (by decide +kernel) rfl (by decide) (by decide) (lwG_at 1030 (by decide +kernel)) hfs ?_
    refine c_bi (v := 110) (n := 110) B (by decide +kernel) rfl ?_
    refine c_ild (n := 1) 0 B (by decide +kernel) rfl ?_
    refine c_iadd B (by decide +kernel) ?_
    rw [show (110 : Int32) = nI 110 from rfl, nI_add]
    refine c_ic (v := -1) (n := -1) B (by decide +kernel) rfl ?_
    refine c_iast (j := 1) (N := 120) (i := 110 + i) (f := spF f i) B (by decide +kernel) rfl (by omega) (by decide) ?_
    rw [spF_s]
    refine c_iinc (n := 1) (i := 1) (v := nI (i + 1)) (k := 0) (lv' := [(1, .int (nI (i + 1))), (0, .ref h)]) B (by decide +kernel) rfl (nI_1 i) (by decide) rfl ?_
    refine c_goto (tgt := 742) (off := -19) B (by decide +kernel) (by decide) ?_
    exact ih (i + 1) (by omega)
end BR
def vs10 : List Nat := [116, 105, 109, 101, 32, 32, 103, 105, 118, 101, 115, 32, 119, 97, 110, 116, 115, 32, 98, 105, 110, 100, 115, 32, 104, 97, 110, 100, 115, 32, 97, 102, 116, 101, 114, 32]
def vs11 : List Nat := [116, 111, 111, 108, 115, 32, 115, 112, 97, 114, 101, 32, 103, 111, 97, 108, 32, 32]
def vs12 : List Nat := [1, 2, 3, 4, 5, 8]
def vs9 : List Nat := [108, 111, 99, 107, 32, 32, 114, 111, 112, 101, 32, 32, 99, 104, 97, 105, 110, 32, 111, 108, 100, 32, 32, 32, 114, 117, 115, 116, 101, 100, 110, 97, 105, 108, 32, 32, 98, 111, 108, 116, 32, 32]
section CT
variable {ev : EV} {h h0 fr : Nat}
def L_M (ev : EV) (h : Nat) : List va_E := [.inr (6, [.ref (h + 1), .ref (h + 2), .ref (h + 3), .int 0, .ref (h + 4), .ref (h + 5), .ref (h + 6), .int 0, .ref (h + 7), .int 0, .ref (h + 8), .int 0, .int 0, .int 0, .int 0, .long 0, .ref (h + 9), .ref (h + 10), .ref (h + 11), .ref (h + 12), .ref (h + 13), .ref (h + 14), .ref (h + 15), .ref (h + 16)]), .inl (ev.2.2 100, 120, .inl (spF (upd (upd (upd (fun _ => 0) 7 (5)) 8 (5)) 9 (1)) 10)), .inl (ev.2.2 100, 120, .inl (fun _ => 0)), .inl (ev.2.2 100, 120, .inl (fun _ => 0)), .inl (ev.2.2 100, 7, .inl (fun _ => 0)), .inl (ev.2.2 100, 1024, .inl (fun _ => 0)), .inl (ev.2.2 100, 10, .inl (fun _ => 0)), .inl (ev.2.2 100, 1024, .inl (fun _ => 0)), .inl (ev.2.2 100, 120, .inl (fun _ => 0)), .inl (ev.2.2 101, 42, .inl (ini vs9 42)), .inl (ev.2.2 101, 36, .inl (ini vs10 36)), .inl (ev.2.2 101, 18, .inl (ini vs11 18)), .inl (ev.2.2 100, 6, .inl (ini vs12 6)), .inl (ev.2.2 100, 4, .inl (fun _ => 0)), .inl (ev.2.2 100, 4, .inl (fun _ => 0)), .inl (ev.2.2 100, 160, .inl (fun _ => 0)), .inl (ev.2.2 100, 40, .inl (fun _ => 0))]
set_option maxHeartbeats 16000000 in
theorem ct_M (l : Launch) (h0h : h0 ≤ h) : CtM l ev ⟨"ChainedChestModel", "<init>", "()V"⟩ prog_8_method_1_code 2 [] h h0 fr 1 [.inr (6, zeroL 6)] (L_M ev h) 16 2855 := by
  refine ct_of (by decide) rfl h0h (Nat.le_of_ble_eq_true rfl) ?_
  intro p e s m args below meth c B
  change CW _ _ _ _ _ _ _ _ _ _ _ _ _ _ 0 [(0, .ref h)] [] ([.inr (6, [.null, .null, .null, .int 0, .null, .null, .null, .int 0, .null, .int 0, .null, .int 0, .int 0, .int 0, .int 0, .long 0, .null, .null, .null, .null, .null, .null, .null, .null])]) 0 0
  refine c_ald (n := 0) 0 B (by decide +kernel) rfl ?_
  refine c_obj (i := 1) B (by decide +kernel) ⟨(lwG_at 1029 (by decide +kernel)), (lwG_at 82 (by decide +kernel)), lwG_at 83 (by decide +kernel)⟩ (by decide) ?_
  change CW _ _ _ _ _ _ _ _ _ _ _ _ _ _ 4 [(0, .ref h)] [] ([.inr (6, [.null, .null, .null, .int 0, .null, .null, .null, .int 0, .null, .int 0, .null, .int 0, .int 0, .int 0, .int 0, .long 0, .null, .null, .null, .null, .null, .null, .null, .null])]) 0 0
  refine c_ald (n := 0) 0 B (by decide +kernel) rfl ?_
  refine c_bi (v := 120) (n := 120) B (by decide +kernel) rfl ?_
  refine c_newa (N := 120) B (by decide +kernel) (Or.inl ⟨rfl, rfl, rfl⟩) rfl (by decide) (by decide) (by decide) rfl ?_
  change CW _ _ _ _ _ _ _ _ _ _ _ _ _ _ 9 [(0, .ref h)] [.ref (h + 1), .ref h] ([.inr (6, [.null, .null, .null, .int 0, .null, .null, .null, .int 0, .null, .int 0, .null, .int 0, .int 0, .int 0, .int 0, .long 0, .null, .null, .null, .null, .null, .null, .null, .null]), .inl (ev.2.2 100, 120, .inl (fun _ => 0))]) 1 120
  refine c_put (i := 9) (ci := 6) (j := 0) (k := 0) (ty := tyG 6 0) B (by decide +kernel) rfl (by decide) (by decide) rfl (lwG_at 1030 (by decide +kernel)) (tyG_ok 6 (by decide) 0 (by decide)) rfl rfl (Nat.le_of_ble_eq_true rfl) ?_
  change CW _ _ _ _ _ _ _ _ _ _ _ _ _ _ 12 [(0, .ref h)] [] ([.inr (6, [.ref (h + 1), .null, .null, .int 0, .null, .null, .null, .int 0, .null, .int 0, .null, .int 0, .int 0, .int 0, .int 0, .long 0, .null, .null, .null, .null, .null, .null, .null, .null]), .inl (ev.2.2 100, 120, .inl (fun _ => 0))]) 1 120
  refine c_ald (n := 0) 0 B (by decide +kernel) rfl ?_
  refine c_bi (v := 120) (n := 120) B (by decide +kernel) rfl ?_
  refine c_newa (N := 120) B (by decide +kernel) (Or.inl ⟨rfl, rfl, rfl⟩) rfl (by decide) (by decide) (by decide) rfl ?_
  change CW _ _ _ _ _ _ _ _ _ _ _ _ _ _ 17 [(0, .ref h)] [.ref (h + 2), .ref h] ([.inr (6, [.ref (h + 1), .null, .null, .int 0, .null, .null, .null, .int 0, .null, .int 0, .null, .int 0, .int 0, .int 0, .int 0, .long 0, .null, .null, .null, .null, .null, .null, .null, .null]), .inl (ev.2.2 100, 120, .inl (fun _ => 0)), .inl (ev.2.2 100, 120, .inl (fun _ => 0))]) 2 240
  refine c_put (i := 13) (ci := 6) (j := 0) (k := 1) (ty := tyG 6 1) B (by decide +kernel) rfl (by decide) (by decide) rfl (lwG_at 1031 (by decide +kernel)) (tyG_ok 6 (by decide) 1 (by decide)) rfl rfl (Nat.le_of_ble_eq_true rfl) ?_
  change CW _ _ _ _ _ _ _ _ _ _ _ _ _ _ 20 [(0, .ref h)] [] ([.inr (6, [.ref (h + 1), .ref (h + 2), .null, .int 0, .null, .null, .null, .int 0, .null, .int 0, .null, .int 0, .int 0, .int 0, .int 0, .long 0, .null, .null, .null, .null, .null, .null, .null, .null]), .inl (ev.2.2 100, 120, .inl (fun _ => 0)), .inl (ev.2.2 100, 120, .inl (fun _ => 0))]) 2 240
  refine c_ald (n := 0) 0 B (by decide +kernel) rfl ?_
  refine c_bi (v := 120) (n := 120) B (by decide +kernel) rfl ?_
  refine c_newa (N := 120) B (by decide +kernel) (Or.inl ⟨rfl, rfl, rfl⟩) rfl (by decide) (by decide) (by decide) rfl ?_
  change CW _ _ _ _ _ _ _ _ _ _ _ _ _ _ 25 [(0, .ref h)] [.ref (h + 3), .ref h] ([.inr (6, [.ref (h + 1), .ref (h + 2), .null, .int 0, .null, .null, .null, .int 0, .null, .int 0, .null, .int 0, .int 0, .int 0, .int 0, .long 0, .null, .null, .null, .null, .null, .null, .null, .null]), .inl (ev.2.2 100, 120, .inl (fun _ => 0)), .inl (ev.2.2 100, 120, .inl (fun _ => 0)), .inl (ev.2.2 100, 120, .inl (fun _ => 0))]) 3 360
  refine c_put (i := 16) (ci := 6) (j := 0) (k := 2) (ty := tyG 6 2) B (by decide +kernel) rfl (by decide) (by decide) rfl (lwG_at 1032 (by decide +kernel)) (tyG_ok 6 (by decide) 2 (by decide)) rfl rfl (Nat.le_of_ble_eq_true rfl) ?_
  change CW _ _ _ _ _ _ _ _ _ _ _ _ _ _ 28 [(0, .ref h)] [] ([.inr (6, [.ref (h + 1), .ref (h + 2), .ref (h + 3), .int 0, .null, .null, .null, .int 0, .null, .int 0, .null, .int 0, .int 0, .int 0, .int 0, .long 0, .null, .null, .null, .null, .null, .null, .null, .null]), .inl (ev.2.2 100, 120, .inl (fun _ => 0)), .inl (ev.2.2 100, 120, .inl (fun _ => 0)), .inl (ev.2.2 100, 120, .inl (fun _ => 0))]) 3 360
  refine c_ald (n := 0) 0 B (by decide +kernel) rfl ?_
  refine c_bi (v := 7) (n := 7) B (by decide +kernel) rfl ?_
  refine c_newa (N := 7) B (by decide +kernel) (Or.inl ⟨rfl, rfl, rfl⟩) rfl (by decide) (by decide) (by decide) rfl ?_
  change CW _ _ _ _ _ _ _ _ _ _ _ _ _ _ 33 [(0, .ref h)] [.ref (h + 4), .ref h] ([.inr (6, [.ref (h + 1), .ref (h + 2), .ref (h + 3), .int 0, .null, .null, .null, .int 0, .null, .int 0, .null, .int 0, .int 0, .int 0, .int 0, .long 0, .null, .null, .null, .null, .null, .null, .null, .null]), .inl (ev.2.2 100, 120, .inl (fun _ => 0)), .inl (ev.2.2 100, 120, .inl (fun _ => 0)), .inl (ev.2.2 100, 120, .inl (fun _ => 0)), .inl (ev.2.2 100, 7, .inl (fun _ => 0))]) 4 367
  refine c_put (i := 19) (ci := 6) (j := 0) (k := 4) (ty := tyG 6 4) B (by decide +kernel) rfl (by decide) (by decide) rfl (lwG_at 1034 (by decide +kernel)) (tyG_ok 6 (by decide) 4 (by decide)) rfl rfl (Nat.le_of_ble_eq_true rfl) ?_
  change CW _ _ _ _ _ _ _ _ _ _ _ _ _ _ 36 [(0, .ref h)] [] ([.inr (6, [.ref (h + 1), .ref (h + 2), .ref (h + 3), .int 0, .ref (h + 4), .null, .null, .int 0, .null, .int 0, .null, .int 0, .int 0, .int 0, .int 0, .long 0, .null, .null, .null, .null, .null, .null, .null, .null]), .inl (ev.2.2 100, 120, .inl (fun _ => 0)), .inl (ev.2.2 100, 120, .inl (fun _ => 0)), .inl (ev.2.2 100, 120, .inl (fun _ => 0)), .inl (ev.2.2 100, 7, .inl (fun _ => 0))]) 4 367
  refine c_ald (n := 0) 0 B (by decide +kernel) rfl ?_
  refine c_si (v := 1024) (n := 1024) B (by decide +kernel) rfl ?_
  refine c_newa (N := 1024) B (by decide +kernel) (Or.inl ⟨rfl, rfl, rfl⟩) rfl (by decide) (by decide) (by decide) rfl ?_
  change CW _ _ _ _ _ _ _ _ _ _ _ _ _ _ 42 [(0, .ref h)] [.ref (h + 5), .ref h] ([.inr (6, [.ref (h + 1), .ref (h + 2), .ref (h + 3), .int 0, .ref (h + 4), .null, .null, .int 0, .null, .int 0, .null, .int 0, .int 0, .int 0, .int 0, .long 0, .null, .null, .null, .null, .null, .null, .null, .null]), .inl (ev.2.2 100, 120, .inl (fun _ => 0)), .inl (ev.2.2 100, 120, .inl (fun _ => 0)), .inl (ev.2.2 100, 120, .inl (fun _ => 0)), .inl (ev.2.2 100, 7, .inl (fun _ => 0)), .inl (ev.2.2 100, 1024, .inl (fun _ => 0))]) 5 1391
  refine c_put (i := 22) (ci := 6) (j := 0) (k := 5) (ty := tyG 6 5) B (by decide +kernel) rfl (by decide) (by decide) rfl (lwG_at 1035 (by decide +kernel)) (tyG_ok 6 (by decide) 5 (by decide)) rfl rfl (Nat.le_of_ble_eq_true rfl) ?_
  change CW _ _ _ _ _ _ _ _ _ _ _ _ _ _ 45 [(0, .ref h)] [] ([.inr (6, [.ref (h + 1), .ref (h + 2), .ref (h + 3), .int 0, .ref (h + 4), .ref (h + 5), .null, .int 0, .null, .int 0, .null, .int 0, .int 0, .int 0, .int 0, .long 0, .null, .null, .null, .null, .null, .null, .null, .null]), .inl (ev.2.2 100, 120, .inl (fun _ => 0)), .inl (ev.2.2 100, 120, .inl (fun _ => 0)), .inl (ev.2.2 100, 120, .inl (fun _ => 0)), .inl (ev.2.2 100, 7, .inl (fun _ => 0)), .inl (ev.2.2 100, 1024, .inl (fun _ => 0))]) 5 1391
  refine c_ald (n := 0) 0 B (by decide +kernel) rfl ?_
  refine c_bi (v := 10) (n := 10) B (by decide +kernel) rfl ?_
  refine c_newa (N := 10) B (by decide +kernel) (Or.inl ⟨rfl, rfl, rfl⟩) rfl (by decide) (by decide) (by decide) rfl ?_
  change CW _ _ _ _ _ _ _ _ _ _ _ _ _ _ 50 [(0, .ref h)] [.ref (h + 6), .ref h] ([.inr (6, [.ref (h + 1), .ref (h + 2), .ref (h + 3), .int 0, .ref (h + 4), .ref (h + 5), .null, .int 0, .null, .int 0, .null, .int 0, .int 0, .int 0, .int 0, .long 0, .null, .null, .null, .null, .null, .null, .null, .null]), .inl (ev.2.2 100, 120, .inl (fun _ => 0)), .inl (ev.2.2 100, 120, .inl (fun _ => 0)), .inl (ev.2.2 100, 120, .inl (fun _ => 0)), .inl (ev.2.2 100, 7, .inl (fun _ => 0)), .inl (ev.2.2 100, 1024, .inl (fun _ => 0)), .inl (ev.2.2 100, 10, .inl (fun _ => 0))]) 6 1401
  refine c_put (i := 25) (ci := 6) (j := 0) (k := 6) (ty := tyG 6 6) B (by decide +kernel) rfl (by decide) (by decide) rfl (lwG_at 1036 (by decide +kernel)) (tyG_ok 6 (by decide) 6 (by decide)) rfl rfl (Nat.le_of_ble_eq_true rfl) ?_
  change CW _ _ _ _ _ _ _ _ _ _ _ _ _ _ 53 [(0, .ref h)] [] ([.inr (6, [.ref (h + 1), .ref (h + 2), .ref (h + 3), .int 0, .ref (h + 4), .ref (h + 5), .ref (h + 6), .int 0, .null, .int 0, .null, .int 0, .int 0, .int 0, .int 0, .long 0, .null, .null, .null, .null, .null, .null, .null, .null]), .inl (ev.2.2 100, 120, .inl (fun _ => 0)), .inl (ev.2.2 100, 120, .inl (fun _ => 0)), .inl (ev.2.2 100, 120, .inl (fun _ => 0)), .inl (ev.2.2 100, 7, .inl (fun _ => 0)), .inl (ev.2.2 100, 1024, .inl (fun _ => 0)), .inl (ev.2.2 100, 10, .inl (fun _ => 0))]) 6 1401
  refine c_ald (n := 0) 0 B (by decide +kernel) rfl ?_
  refine c_si (v := 1024) (n := 1024) B (by decide +kernel) rfl ?_
  refine c_newa (N := 1024) B (by decide +kernel) (Or.inl ⟨rfl, rfl, rfl⟩) rfl (by decide) (by decide) (by decide) rfl ?_
  change CW _ _ _ _ _ _ _ _ _ _ _ _ _ _ 59 [(0, .ref h)] [.ref (h + 7), .ref h] ([.inr (6, [.ref (h + 1), .ref (h + 2), .ref (h + 3), .int 0, .ref (h + 4), .ref (h + 5), .ref (h + 6), .int 0, .null, .int 0, .null, .int 0, .int 0, .int 0, .int 0, .long 0, .null, .null, .null, .null, .null, .null, .null, .null]), .inl (ev.2.2 100, 120, .inl (fun _ => 0)), .inl (ev.2.2 100, 120, .inl (fun _ => 0)), .inl (ev.2.2 100, 120, .inl (fun _ => 0)), .inl (ev.2.2 100, 7, .inl (fun _ => 0)), .inl (ev.2.2 100, 1024, .inl (fun _ => 0)), .inl (ev.2.2 100, 10, .inl (fun _ => 0)), .inl (ev.2.2 100, 1024, .inl (fun _ => 0))]) 7 2425
  refine c_put (i := 28) (ci := 6) (j := 0) (k := 8) (ty := tyG 6 8) B (by decide +kernel) rfl (by decide) (by decide) rfl (lwG_at 1038 (by decide +kernel)) (tyG_ok 6 (by decide) 8 (by decide)) rfl rfl (Nat.le_of_ble_eq_true rfl) ?_
  change CW _ _ _ _ _ _ _ _ _ _ _ _ _ _ 62 [(0, .ref h)] [] ([.inr (6, [.ref (h + 1), .ref (h + 2), .ref (h + 3), .int 0, .ref (h + 4), .ref (h + 5), .ref (h + 6), .int 0, .ref (h + 7), .int 0, .null, .int 0, .int 0, .int 0, .int 0, .long 0, .null, .null, .null, .null, .null, .null, .null, .null]), .inl (ev.2.2 100, 120, .inl (fun _ => 0)), .inl (ev.2.2 100, 120, .inl (fun _ => 0)), .inl (ev.2.2 100, 120, .inl (fun _ => 0)), .inl (ev.2.2 100, 7, .inl (fun _ => 0)), .inl (ev.2.2 100, 1024, .inl (fun _ => 0)), .inl (ev.2.2 100, 10, .inl (fun _ => 0)), .inl (ev.2.2 100, 1024, .inl (fun _ => 0))]) 7 2425
  refine c_ald (n := 0) 0 B (by decide +kernel) rfl ?_
  refine c_bi (v := 120) (n := 120) B (by decide +kernel) rfl ?_
  refine c_newa (N := 120) B (by decide +kernel) (Or.inl ⟨rfl, rfl, rfl⟩) rfl (by decide) (by decide) (by decide) rfl ?_
  change CW _ _ _ _ _ _ _ _ _ _ _ _ _ _ 67 [(0, .ref h)] [.ref (h + 8), .ref h] ([.inr (6, [.ref (h + 1), .ref (h + 2), .ref (h + 3), .int 0, .ref (h + 4), .ref (h + 5), .ref (h + 6), .int 0, .ref (h + 7), .int 0, .null, .int 0, .int 0, .int 0, .int 0, .long 0, .null, .null, .null, .null, .null, .null, .null, .null]), .inl (ev.2.2 100, 120, .inl (fun _ => 0)), .inl (ev.2.2 100, 120, .inl (fun _ => 0)), .inl (ev.2.2 100, 120, .inl (fun _ => 0)), .inl (ev.2.2 100, 7, .inl (fun _ => 0)), .inl (ev.2.2 100, 1024, .inl (fun _ => 0)), .inl (ev.2.2 100, 10, .inl (fun _ => 0)), .inl (ev.2.2 100, 1024, .inl (fun _ => 0)), .inl (ev.2.2 100, 120, .inl (fun _ => 0))]) 8 2545
  refine c_put (i := 31) (ci := 6) (j := 0) (k := 10) (ty := tyG 6 10) B (by decide +kernel) rfl (by decide) (by decide) rfl (lwG_at 1040 (by decide +kernel)) (tyG_ok 6 (by decide) 10 (by decide)) rfl rfl (Nat.le_of_ble_eq_true rfl) ?_
  change CW _ _ _ _ _ _ _ _ _ _ _ _ _ _ 70 [(0, .ref h)] [] ([.inr (6, [.ref (h + 1), .ref (h + 2), .ref (h + 3), .int 0, .ref (h + 4), .ref (h + 5), .ref (h + 6), .int 0, .ref (h + 7), .int 0, .ref (h + 8), .int 0, .int 0, .int 0, .int 0, .long 0, .null, .null, .null, .null, .null, .null, .null, .null]), .inl (ev.2.2 100, 120, .inl (fun _ => 0)), .inl (ev.2.2 100, 120, .inl (fun _ => 0)), .inl (ev.2.2 100, 120, .inl (fun _ => 0)), .inl (ev.2.2 100, 7, .inl (fun _ => 0)), .inl (ev.2.2 100, 1024, .inl (fun _ => 0)), .inl (ev.2.2 100, 10, .inl (fun _ => 0)), .inl (ev.2.2 100, 1024, .inl (fun _ => 0)), .inl (ev.2.2 100, 120, .inl (fun _ => 0))]) 8 2545
  refine c_ald (n := 0) 0 B (by decide +kernel) rfl ?_
  refine c_bi (v := 42) (n := 42) B (by decide +kernel) rfl ?_
  refine c_newa (N := 42) B (by decide +kernel) (Or.inr ⟨rfl, rfl, rfl⟩) rfl (by decide) (by decide) (by decide) rfl ?_
  change CW _ _ _ _ _ _ _ _ _ _ _ _ _ _ 75 [(0, .ref h)] [.ref (h + 9), .ref h] ([.inr (6, [.ref (h + 1), .ref (h + 2), .ref (h + 3), .int 0, .ref (h + 4), .ref (h + 5), .ref (h + 6), .int 0, .ref (h + 7), .int 0, .ref (h + 8), .int 0, .int 0, .int 0, .int 0, .long 0, .null, .null, .null, .null, .null, .null, .null, .null]), .inl (ev.2.2 100, 120, .inl (fun _ => 0)), .inl (ev.2.2 100, 120, .inl (fun _ => 0)), .inl (ev.2.2 100, 120, .inl (fun _ => 0)), .inl (ev.2.2 100, 7, .inl (fun _ => 0)), .inl (ev.2.2 100, 1024, .inl (fun _ => 0)), .inl (ev.2.2 100, 10, .inl (fun _ => 0)), .inl (ev.2.2 100, 1024, .inl (fun _ => 0)), .inl (ev.2.2 100, 120, .inl (fun _ => 0)), .inl (ev.2.2 101, 42, .inl (fun _ => 0))]) 9 2587
  change CW _ _ _ _ _ _ _ _ _ _ _ _ _ _ 75 [(0, .ref h)] [.ref (h + 9), .ref h] ([.inr (6, [.ref (h + 1), .ref (h + 2), .ref (h + 3), .int 0, .ref (h + 4), .ref (h + 5), .ref (h + 6), .int 0, .ref (h + 7), .int 0, .ref (h + 8), .int 0, .int 0, .int 0, .int 0, .long 0, .null, .null, .null, .null, .null, .null, .null, .null]), .inl (ev.2.2 100, 120, .inl (fun _ => 0)), .inl (ev.2.2 100, 120, .inl (fun _ => 0)), .inl (ev.2.2 100, 120, .inl (fun _ => 0)), .inl (ev.2.2 100, 7, .inl (fun _ => 0)), .inl (ev.2.2 100, 1024, .inl (fun _ => 0)), .inl (ev.2.2 100, 10, .inl (fun _ => 0)), .inl (ev.2.2 100, 1024, .inl (fun _ => 0)), .inl (ev.2.2 100, 120, .inl (fun _ => 0))] ++ [.inl (ev.2.2 101, 42, .inl (fun _ => 0))]) 9 2587
  refine c_iniZ (t := true) (vs := vs9) (N := 42) (L0 := _) (j := 9) (pc' := 321) B rfl (by decide +kernel) (by decide +kernel) (by decide) (by decide) ?_
  change CW _ _ _ _ _ _ _ _ _ _ _ _ _ _ 321 [(0, .ref h)] [.ref (h + 9), .ref h] ([.inr (6, [.ref (h + 1), .ref (h + 2), .ref (h + 3), .int 0, .ref (h + 4), .ref (h + 5), .ref (h + 6), .int 0, .ref (h + 7), .int 0, .ref (h + 8), .int 0, .int 0, .int 0, .int 0, .long 0, .null, .null, .null, .null, .null, .null, .null, .null]), .inl (ev.2.2 100, 120, .inl (fun _ => 0)), .inl (ev.2.2 100, 120, .inl (fun _ => 0)), .inl (ev.2.2 100, 120, .inl (fun _ => 0)), .inl (ev.2.2 100, 7, .inl (fun _ => 0)), .inl (ev.2.2 100, 1024, .inl (fun _ => 0)), .inl (ev.2.2 100, 10, .inl (fun _ => 0)), .inl (ev.2.2 100, 1024, .inl (fun _ => 0)), .inl (ev.2.2 100, 120, .inl (fun _ => 0)), .inl (ev.2.2 101, 42, .inl (ini vs9 42))]) 9 2587
  refine c_put (i := 34) (ci := 6) (j := 0) (k := 16) (ty := tyG 6 16) B (by decide +kernel) rfl (by decide) (by decide) rfl (lwG_at 1046 (by decide +kernel)) (tyG_ok 6 (by decide) 16 (by decide)) rfl rfl (Nat.le_of_ble_eq_true rfl) ?_
  change CW _ _ _ _ _ _ _ _ _ _ _ _ _ _ 324 [(0, .ref h)] [] ([.inr (6, [.ref (h + 1), .ref (h + 2), .ref (h + 3), .int 0, .ref (h + 4), .ref (h + 5), .ref (h + 6), .int 0, .ref (h + 7), .int 0, .ref (h + 8), .int 0, .int 0, .int 0, .int 0, .long 0, .ref (h + 9), .null, .null, .null, .null, .null, .null, .null]), .inl (ev.2.2 100, 120, .inl (fun _ => 0)), .inl (ev.2.2 100, 120, .inl (fun _ => 0)), .inl (ev.2.2 100, 120, .inl (fun _ => 0)), .inl (ev.2.2 100, 7, .inl (fun _ => 0)), .inl (ev.2.2 100, 1024, .inl (fun _ => 0)), .inl (ev.2.2 100, 10, .inl (fun _ => 0)), .inl (ev.2.2 100, 1024, .inl (fun _ => 0)), .inl (ev.2.2 100, 120, .inl (fun _ => 0)), .inl (ev.2.2 101, 42, .inl (ini vs9 42))]) 9 2587
  refine c_ald (n := 0) 0 B (by decide +kernel) rfl ?_
  refine c_bi (v := 36) (n := 36) B (by decide +kernel) rfl ?_
  refine c_newa (N := 36) B (by decide +kernel) (Or.inr ⟨rfl, rfl, rfl⟩) rfl (by decide) (by decide) (by decide) rfl ?_
  change CW _ _ _ _ _ _ _ _ _ _ _ _ _ _ 329 [(0, .ref h)] [.ref (h + 10), .ref h] ([.inr (6, [.ref (h + 1), .ref (h + 2), .ref (h + 3), .int 0, .ref (h + 4), .ref (h + 5), .ref (h + 6), .int 0, .ref (h + 7), .int 0, .ref (h + 8), .int 0, .int 0, .int 0, .int 0, .long 0, .ref (h + 9), .null, .null, .null, .null, .null, .null, .null]), .inl (ev.2.2 100, 120, .inl (fun _ => 0)), .inl (ev.2.2 100, 120, .inl (fun _ => 0)), .inl (ev.2.2 100, 120, .inl (fun _ => 0)), .inl (ev.2.2 100, 7, .inl (fun _ => 0)), .inl (ev.2.2 100, 1024, .inl (fun _ => 0)), .inl (ev.2.2 100, 10, .inl (fun _ => 0)), .inl (ev.2.2 100, 1024, .inl (fun _ => 0)), .inl (ev.2.2 100, 120, .inl (fun _ => 0)), .inl (ev.2.2 101, 42, .inl (ini vs9 42)), .inl (ev.2.2 101, 36, .inl (fun _ => 0))]) 10 2623
  change CW _ _ _ _ _ _ _ _ _ _ _ _ _ _ 329 [(0, .ref h)] [.ref (h + 10), .ref h] ([.inr (6, [.ref (h + 1), .ref (h + 2), .ref (h + 3), .int 0, .ref (h + 4), .ref (h + 5), .ref (h + 6), .int 0, .ref (h + 7), .int 0, .ref (h + 8), .int 0, .int 0, .int 0, .int 0, .long 0, .ref (h + 9), .null, .null, .null, .null, .null, .null, .null]), .inl (ev.2.2 100, 120, .inl (fun _ => 0)), .inl (ev.2.2 100, 120, .inl (fun _ => 0)), .inl (ev.2.2 100, 120, .inl (fun _ => 0)), .inl (ev.2.2 100, 7, .inl (fun _ => 0)), .inl (ev.2.2 100, 1024, .inl (fun _ => 0)), .inl (ev.2.2 100, 10, .inl (fun _ => 0)), .inl (ev.2.2 100, 1024, .inl (fun _ => 0)), .inl (ev.2.2 100, 120, .inl (fun _ => 0)), .inl (ev.2.2 101, 42, .inl (ini vs9 42))] ++ [.inl (ev.2.2 101, 36, .inl (fun _ => 0))]) 10 2623
  refine c_iniZ (t := true) (vs := vs10) (N := 36) (L0 := _) (j := 10) (pc' := 539) B rfl (by decide +kernel) (by decide +kernel) (by decide) (by decide) ?_
  change CW _ _ _ _ _ _ _ _ _ _ _ _ _ _ 539 [(0, .ref h)] [.ref (h + 10), .ref h] ([.inr (6, [.ref (h + 1), .ref (h + 2), .ref (h + 3), .int 0, .ref (h + 4), .ref (h + 5), .ref (h + 6), .int 0, .ref (h + 7), .int 0, .ref (h + 8), .int 0, .int 0, .int 0, .int 0, .long 0, .ref (h + 9), .null, .null, .null, .null, .null, .null, .null]), .inl (ev.2.2 100, 120, .inl (fun _ => 0)), .inl (ev.2.2 100, 120, .inl (fun _ => 0)), .inl (ev.2.2 100, 120, .inl (fun _ => 0)), .inl (ev.2.2 100, 7, .inl (fun _ => 0)), .inl (ev.2.2 100, 1024, .inl (fun _ => 0)), .inl (ev.2.2 100, 10, .inl (fun _ => 0)), .inl (ev.2.2 100, 1024, .inl (fun _ => 0)), .inl (ev.2.2 100, 120, .inl (fun _ => 0)), .inl (ev.2.2 101, 42, .inl (ini vs9 42)), .inl (ev.2.2 101, 36, .inl (ini vs10 36))]) 10 2623
  refine c_put (i := 38) (ci := 6) (j := 0) (k := 17) (ty := tyG 6 17) B (by decide +kernel) rfl (by decide) (by decide) rfl (lwG_at 1047 (by decide +kernel)) (tyG_ok 6 (by decide) 17 (by decide)) rfl rfl (Nat.le_of_ble_eq_true rfl) ?_
  change CW _ _ _ _ _ _ _ _ _ _ _ _ _ _ 542 [(0, .ref h)] [] ([.inr (6, [.ref (h + 1), .ref (h + 2), .ref (h + 3), .int 0, .ref (h + 4), .ref (h + 5), .ref (h + 6), .int 0, .ref (h + 7), .int 0, .ref (h + 8), .int 0, .int 0, .int 0, .int 0, .long 0, .ref (h + 9), .ref (h + 10), .null, .null, .null, .null, .null, .null]), .inl (ev.2.2 100, 120, .inl (fun _ => 0)), .inl (ev.2.2 100, 120, .inl (fun _ => 0)), .inl (ev.2.2 100, 120, .inl (fun _ => 0)), .inl (ev.2.2 100, 7, .inl (fun _ => 0)), .inl (ev.2.2 100, 1024, .inl (fun _ => 0)), .inl (ev.2.2 100, 10, .inl (fun _ => 0)), .inl (ev.2.2 100, 1024, .inl (fun _ => 0)), .inl (ev.2.2 100, 120, .inl (fun _ => 0)), .inl (ev.2.2 101, 42, .inl (ini vs9 42)), .inl (ev.2.2 101, 36, .inl (ini vs10 36))]) 10 2623
  refine c_ald (n := 0) 0 B (by decide +kernel) rfl ?_
  refine c_bi (v := 18) (n := 18) B (by decide +kernel) rfl ?_
  refine c_newa (N := 18) B (by decide +kernel) (Or.inr ⟨rfl, rfl, rfl⟩) rfl (by decide) (by decide) (by decide) rfl ?_
  change CW _ _ _ _ _ _ _ _ _ _ _ _ _ _ 547 [(0, .ref h)] [.ref (h + 11), .ref h] ([.inr (6, [.ref (h + 1), .ref (h + 2), .ref (h + 3), .int 0, .ref (h + 4), .ref (h + 5), .ref (h + 6), .int 0, .ref (h + 7), .int 0, .ref (h + 8), .int 0, .int 0, .int 0, .int 0, .long 0, .ref (h + 9), .ref (h + 10), .null, .null, .null, .null, .null, .null]), .inl (ev.2.2 100, 120, .inl (fun _ => 0)), .inl (ev.2.2 100, 120, .inl (fun _ => 0)), .inl (ev.2.2 100, 120, .inl (fun _ => 0)), .inl (ev.2.2 100, 7, .inl (fun _ => 0)), .inl (ev.2.2 100, 1024, .inl (fun _ => 0)), .inl (ev.2.2 100, 10, .inl (fun _ => 0)), .inl (ev.2.2 100, 1024, .inl (fun _ => 0)), .inl (ev.2.2 100, 120, .inl (fun _ => 0)), .inl (ev.2.2 101, 42, .inl (ini vs9 42)), .inl (ev.2.2 101, 36, .inl (ini vs10 36)), .inl (ev.2.2 101, 18, .inl (fun _ => 0))]) 11 2641
  change CW _ _ _ _ _ _ _ _ _ _ _ _ _ _ 547 [(0, .ref h)] [.ref (h + 11), .ref h] ([.inr (6, [.ref (h + 1), .ref (h + 2), .ref (h + 3), .int 0, .ref (h + 4), .ref (h + 5), .ref (h + 6), .int 0, .ref (h + 7), .int 0, .ref (h + 8), .int 0, .int 0, .int 0, .int 0, .long 0, .ref (h + 9), .ref (h + 10), .null, .null, .null, .null, .null, .null]), .inl (ev.2.2 100, 120, .inl (fun _ => 0)), .inl (ev.2.2 100, 120, .inl (fun _ => 0)), .inl (ev.2.2 100, 120, .inl (fun _ => 0)), .inl (ev.2.2 100, 7, .inl (fun _ => 0)), .inl (ev.2.2 100, 1024, .inl (fun _ => 0)), .inl (ev.2.2 100, 10, .inl (fun _ => 0)), .inl (ev.2.2 100, 1024, .inl (fun _ => 0)), .inl (ev.2.2 100, 120, .inl (fun _ => 0)), .inl (ev.2.2 101, 42, .inl (ini vs9 42)), .inl (ev.2.2 101, 36, .inl (ini vs10 36))] ++ [.inl (ev.2.2 101, 18, .inl (fun _ => 0))]) 11 2641
  refine c_iniZ (t := true) (vs := vs11) (N := 18) (L0 := _) (j := 11) (pc' := 649) B rfl (by decide +kernel) (by decide +kernel) (by decide) (by decide) ?_
  change CW _ _ _ _ _ _ _ _ _ _ _ _ _ _ 649 [(0, .ref h)] [.ref (h + 11), .ref h] ([.inr (6, [.ref (h + 1), .ref (h + 2), .ref (h + 3), .int 0, .ref (h + 4), .ref (h + 5), .ref (h + 6), .int 0, .ref (h + 7), .int 0, .ref (h + 8), .int 0, .int 0, .int 0, .int 0, .long 0, .ref (h + 9), .ref (h + 10), .null, .null, .null, .null, .null, .null]), .inl (ev.2.2 100, 120, .inl (fun _ => 0)), .inl (ev.2.2 100, 120, .inl (fun _ => 0)), .inl (ev.2.2 100, 120, .inl (fun _ => 0)), .inl (ev.2.2 100, 7, .inl (fun _ => 0)), .inl (ev.2.2 100, 1024, .inl (fun _ => 0)), .inl (ev.2.2 100, 10, .inl (fun _ => 0)), .inl (ev.2.2 100, 1024, .inl (fun _ => 0)), .inl (ev.2.2 100, 120, .inl (fun _ => 0)), .inl (ev.2.2 101, 42, .inl (ini vs9 42)), .inl (ev.2.2 101, 36, .inl (ini vs10 36)), .inl (ev.2.2 101, 18, .inl (ini vs11 18))]) 11 2641
  refine c_put (i := 41) (ci := 6) (j := 0) (k := 18) (ty := tyG 6 18) B (by decide +kernel) rfl (by decide) (by decide) rfl (lwG_at 1048 (by decide +kernel)) (tyG_ok 6 (by decide) 18 (by decide)) rfl rfl (Nat.le_of_ble_eq_true rfl) ?_
  change CW _ _ _ _ _ _ _ _ _ _ _ _ _ _ 652 [(0, .ref h)] [] ([.inr (6, [.ref (h + 1), .ref (h + 2), .ref (h + 3), .int 0, .ref (h + 4), .ref (h + 5), .ref (h + 6), .int 0, .ref (h + 7), .int 0, .ref (h + 8), .int 0, .int 0, .int 0, .int 0, .long 0, .ref (h + 9), .ref (h + 10), .ref (h + 11), .null, .null, .null, .null, .null]), .inl (ev.2.2 100, 120, .inl (fun _ => 0)), .inl (ev.2.2 100, 120, .inl (fun _ => 0)), .inl (ev.2.2 100, 120, .inl (fun _ => 0)), .inl (ev.2.2 100, 7, .inl (fun _ => 0)), .inl (ev.2.2 100, 1024, .inl (fun _ => 0)), .inl (ev.2.2 100, 10, .inl (fun _ => 0)), .inl (ev.2.2 100, 1024, .inl (fun _ => 0)), .inl (ev.2.2 100, 120, .inl (fun _ => 0)), .inl (ev.2.2 101, 42, .inl (ini vs9 42)), .inl (ev.2.2 101, 36, .inl (ini vs10 36)), .inl (ev.2.2 101, 18, .inl (ini vs11 18))]) 11 2641
  refine c_ald (n := 0) 0 B (by decide +kernel) rfl ?_
  refine c_bi (v := 6) (n := 6) B (by decide +kernel) rfl ?_
  refine c_newa (N := 6) B (by decide +kernel) (Or.inl ⟨rfl, rfl, rfl⟩) rfl (by decide) (by decide) (by decide) rfl ?_
  change CW _ _ _ _ _ _ _ _ _ _ _ _ _ _ 657 [(0, .ref h)] [.ref (h + 12), .ref h] ([.inr (6, [.ref (h + 1), .ref (h + 2), .ref (h + 3), .int 0, .ref (h + 4), .ref (h + 5), .ref (h + 6), .int 0, .ref (h + 7), .int 0, .ref (h + 8), .int 0, .int 0, .int 0, .int 0, .long 0, .ref (h + 9), .ref (h + 10), .ref (h + 11), .null, .null, .null, .null, .null]), .inl (ev.2.2 100, 120, .inl (fun _ => 0)), .inl (ev.2.2 100, 120, .inl (fun _ => 0)), .inl (ev.2.2 100, 120, .inl (fun _ => 0)), .inl (ev.2.2 100, 7, .inl (fun _ => 0)), .inl (ev.2.2 100, 1024, .inl (fun _ => 0)), .inl (ev.2.2 100, 10, .inl (fun _ => 0)), .inl (ev.2.2 100, 1024, .inl (fun _ => 0)), .inl (ev.2.2 100, 120, .inl (fun _ => 0)), .inl (ev.2.2 101, 42, .inl (ini vs9 42)), .inl (ev.2.2 101, 36, .inl (ini vs10 36)), .inl (ev.2.2 101, 18, .inl (ini vs11 18)), .inl (ev.2.2 100, 6, .inl (fun _ => 0))]) 12 2647
  change CW _ _ _ _ _ _ _ _ _ _ _ _ _ _ 657 [(0, .ref h)] [.ref (h + 12), .ref h] ([.inr (6, [.ref (h + 1), .ref (h + 2), .ref (h + 3), .int 0, .ref (h + 4), .ref (h + 5), .ref (h + 6), .int 0, .ref (h + 7), .int 0, .ref (h + 8), .int 0, .int 0, .int 0, .int 0, .long 0, .ref (h + 9), .ref (h + 10), .ref (h + 11), .null, .null, .null, .null, .null]), .inl (ev.2.2 100, 120, .inl (fun _ => 0)), .inl (ev.2.2 100, 120, .inl (fun _ => 0)), .inl (ev.2.2 100, 120, .inl (fun _ => 0)), .inl (ev.2.2 100, 7, .inl (fun _ => 0)), .inl (ev.2.2 100, 1024, .inl (fun _ => 0)), .inl (ev.2.2 100, 10, .inl (fun _ => 0)), .inl (ev.2.2 100, 1024, .inl (fun _ => 0)), .inl (ev.2.2 100, 120, .inl (fun _ => 0)), .inl (ev.2.2 101, 42, .inl (ini vs9 42)), .inl (ev.2.2 101, 36, .inl (ini vs10 36)), .inl (ev.2.2 101, 18, .inl (ini vs11 18))] ++ [.inl (ev.2.2 100, 6, .inl (fun _ => 0))]) 12 2647
  refine c_iniZ (t := false) (vs := vs12) (N := 6) (L0 := _) (j := 12) (pc' := 682) B rfl (by decide +kernel) (by decide +kernel) (by decide) (by decide) ?_
  change CW _ _ _ _ _ _ _ _ _ _ _ _ _ _ 682 [(0, .ref h)] [.ref (h + 12), .ref h] ([.inr (6, [.ref (h + 1), .ref (h + 2), .ref (h + 3), .int 0, .ref (h + 4), .ref (h + 5), .ref (h + 6), .int 0, .ref (h + 7), .int 0, .ref (h + 8), .int 0, .int 0, .int 0, .int 0, .long 0, .ref (h + 9), .ref (h + 10), .ref (h + 11), .null, .null, .null, .null, .null]), .inl (ev.2.2 100, 120, .inl (fun _ => 0)), .inl (ev.2.2 100, 120, .inl (fun _ => 0)), .inl (ev.2.2 100, 120, .inl (fun _ => 0)), .inl (ev.2.2 100, 7, .inl (fun _ => 0)), .inl (ev.2.2 100, 1024, .inl (fun _ => 0)), .inl (ev.2.2 100, 10, .inl (fun _ => 0)), .inl (ev.2.2 100, 1024, .inl (fun _ => 0)), .inl (ev.2.2 100, 120, .inl (fun _ => 0)), .inl (ev.2.2 101, 42, .inl (ini vs9 42)), .inl (ev.2.2 101, 36, .inl (ini vs10 36)), .inl (ev.2.2 101, 18, .inl (ini vs11 18)), .inl (ev.2.2 100, 6, .inl (ini vs12 6))]) 12 2647
  refine c_put (i := 44) (ci := 6) (j := 0) (k := 19) (ty := tyG 6 19) B (by decide +kernel) rfl (by decide) (by decide) rfl (lwG_at 1049 (by decide +kernel)) (tyG_ok 6 (by decide) 19 (by decide)) rfl rfl (Nat.le_of_ble_eq_true rfl) ?_
  change CW _ _ _ _ _ _ _ _ _ _ _ _ _ _ 685 [(0, .ref h)] [] ([.inr (6, [.ref (h + 1), .ref (h + 2), .ref (h + 3), .int 0, .ref (h + 4), .ref (h + 5), .ref (h + 6), .int 0, .ref (h + 7), .int 0, .ref (h + 8), .int 0, .int 0, .int 0, .int 0, .long 0, .ref (h + 9), .ref (h + 10), .ref (h + 11), .ref (h + 12), .null, .null, .null, .null]), .inl (ev.2.2 100, 120, .inl (fun _ => 0)), .inl (ev.2.2 100, 120, .inl (fun _ => 0)), .inl (ev.2.2 100, 120, .inl (fun _ => 0)), .inl (ev.2.2 100, 7, .inl (fun _ => 0)), .inl (ev.2.2 100, 1024, .inl (fun _ => 0)), .inl (ev.2.2 100, 10, .inl (fun _ => 0)), .inl (ev.2.2 100, 1024, .inl (fun _ => 0)), .inl (ev.2.2 100, 120, .inl (fun _ => 0)), .inl (ev.2.2 101, 42, .inl (ini vs9 42)), .inl (ev.2.2 101, 36, .inl (ini vs10 36)), .inl (ev.2.2 101, 18, .inl (ini vs11 18)), .inl (ev.2.2 100, 6, .inl (ini vs12 6))]) 12 2647
  refine c_ald (n := 0) 0 B (by decide +kernel) rfl ?_
  refine c_ic (v := 4) (n := 4) B (by decide +kernel) rfl ?_
  refine c_newa (N := 4) B (by decide +kernel) (Or.inl ⟨rfl, rfl, rfl⟩) rfl (by decide) (by decide) (by decide) rfl ?_
  change CW _ _ _ _ _ _ _ _ _ _ _ _ _ _ 689 [(0, .ref h)] [.ref (h + 13), .ref h] ([.inr (6, [.ref (h + 1), .ref (h + 2), .ref (h + 3), .int 0, .ref (h + 4), .ref (h + 5), .ref (h + 6), .int 0, .ref (h + 7), .int 0, .ref (h + 8), .int 0, .int 0, .int 0, .int 0, .long 0, .ref (h + 9), .ref (h + 10), .ref (h + 11), .ref (h + 12), .null, .null, .null, .null]), .inl (ev.2.2 100, 120, .inl (fun _ => 0)), .inl (ev.2.2 100, 120, .inl (fun _ => 0)), .inl (ev.2.2 100, 120, .inl (fun _ => 0)), .inl (ev.2.2 100, 7, .inl (fun _ => 0)), .inl (ev.2.2 100, 1024, .inl (fun _ => 0)), .inl (ev.2.2 100, 10, .inl (fun _ => 0)), .inl (ev.2.2 100, 1024, .inl (fun _ => 0)), .inl (ev.2.2 100, 120, .inl (fun _ => 0)), .inl (ev.2.2 101, 42, .inl (ini vs9 42)), .inl (ev.2.2 101, 36, .inl (ini vs10 36)), .inl (ev.2.2 101, 18, .inl (ini vs11 18)), .inl (ev.2.2 100, 6, .inl (ini vs12 6)), .inl (ev.2.2 100, 4, .inl (fun _ => 0))]) 13 2651
  refine c_put (i := 47) (ci := 6) (j := 0) (k := 20) (ty := tyG 6 20) B (by decide +kernel) rfl (by decide) (by decide) rfl (lwG_at 1050 (by decide +kernel)) (tyG_ok 6 (by decide) 20 (by decide)) rfl rfl (Nat.le_of_ble_eq_true rfl) ?_
  change CW _ _ _ _ _ _ _ _ _ _ _ _ _ _ 692 [(0, .ref h)] [] ([.inr (6, [.ref (h + 1), .ref (h + 2), .ref (h + 3), .int 0, .ref (h + 4), .ref (h + 5), .ref (h + 6), .int 0, .ref (h + 7), .int 0, .ref (h + 8), .int 0, .int 0, .int 0, .int 0, .long 0, .ref (h + 9), .ref (h + 10), .ref (h + 11), .ref (h + 12), .ref (h + 13), .null, .null, .null]), .inl (ev.2.2 100, 120, .inl (fun _ => 0)), .inl (ev.2.2 100, 120, .inl (fun _ => 0)), .inl (ev.2.2 100, 120, .inl (fun _ => 0)), .inl (ev.2.2 100, 7, .inl (fun _ => 0)), .inl (ev.2.2 100, 1024, .inl (fun _ => 0)), .inl (ev.2.2 100, 10, .inl (fun _ => 0)), .inl (ev.2.2 100, 1024, .inl (fun _ => 0)), .inl (ev.2.2 100, 120, .inl (fun _ => 0)), .inl (ev.2.2 101, 42, .inl (ini vs9 42)), .inl (ev.2.2 101, 36, .inl (ini vs10 36)), .inl (ev.2.2 101, 18, .inl (ini vs11 18)), .inl (ev.2.2 100, 6, .inl (ini vs12 6)), .inl (ev.2.2 100, 4, .inl (fun _ => 0))]) 13 2651
  refine c_ald (n := 0) 0 B (by decide +kernel) rfl ?_
  refine c_ic (v := 4) (n := 4) B (by decide +kernel) rfl ?_
  refine c_newa (N := 4) B (by decide +kernel) (Or.inl ⟨rfl, rfl, rfl⟩) rfl (by decide) (by decide) (by decide) rfl ?_
  change CW _ _ _ _ _ _ _ _ _ _ _ _ _ _ 696 [(0, .ref h)] [.ref (h + 14), .ref h] ([.inr (6, [.ref (h + 1), .ref (h + 2), .ref (h + 3), .int 0, .ref (h + 4), .ref (h + 5), .ref (h + 6), .int 0, .ref (h + 7), .int 0, .ref (h + 8), .int 0, .int 0, .int 0, .int 0, .long 0, .ref (h + 9), .ref (h + 10), .ref (h + 11), .ref (h + 12), .ref (h + 13), .null, .null, .null]), .inl (ev.2.2 100, 120, .inl (fun _ => 0)), .inl (ev.2.2 100, 120, .inl (fun _ => 0)), .inl (ev.2.2 100, 120, .inl (fun _ => 0)), .inl (ev.2.2 100, 7, .inl (fun _ => 0)), .inl (ev.2.2 100, 1024, .inl (fun _ => 0)), .inl (ev.2.2 100, 10, .inl (fun _ => 0)), .inl (ev.2.2 100, 1024, .inl (fun _ => 0)), .inl (ev.2.2 100, 120, .inl (fun _ => 0)), .inl (ev.2.2 101, 42, .inl (ini vs9 42)), .inl (ev.2.2 101, 36, .inl (ini vs10 36)), .inl (ev.2.2 101, 18, .inl (ini vs11 18)), .inl (ev.2.2 100, 6, .inl (ini vs12 6)), .inl (ev.2.2 100, 4, .inl (fun _ => 0)), .inl (ev.2.2 100, 4, .inl (fun _ => 0))]) 14 2655
  refine c_put (i := 50) (ci := 6) (j := 0) (k := 21) (ty := tyG 6 21) B (by decide +kernel) rfl (by decide) (by decide) rfl (lwG_at 1051 (by decide +kernel)) (tyG_ok 6 (by decide) 21 (by decide)) rfl rfl (Nat.le_of_ble_eq_true rfl) ?_
  change CW _ _ _ _ _ _ _ _ _ _ _ _ _ _ 699 [(0, .ref h)] [] ([.inr (6, [.ref (h + 1), .ref (h + 2), .ref (h + 3), .int 0, .ref (h + 4), .ref (h + 5), .ref (h + 6), .int 0, .ref (h + 7), .int 0, .ref (h + 8), .int 0, .int 0, .int 0, .int 0, .long 0, .ref (h + 9), .ref (h + 10), .ref (h + 11), .ref (h + 12), .ref (h + 13), .ref (h + 14), .null, .null]), .inl (ev.2.2 100, 120, .inl (fun _ => 0)), .inl (ev.2.2 100, 120, .inl (fun _ => 0)), .inl (ev.2.2 100, 120, .inl (fun _ => 0)), .inl (ev.2.2 100, 7, .inl (fun _ => 0)), .inl (ev.2.2 100, 1024, .inl (fun _ => 0)), .inl (ev.2.2 100, 10, .inl (fun _ => 0)), .inl (ev.2.2 100, 1024, .inl (fun _ => 0)), .inl (ev.2.2 100, 120, .inl (fun _ => 0)), .inl (ev.2.2 101, 42, .inl (ini vs9 42)), .inl (ev.2.2 101, 36, .inl (ini vs10 36)), .inl (ev.2.2 101, 18, .inl (ini vs11 18)), .inl (ev.2.2 100, 6, .inl (ini vs12 6)), .inl (ev.2.2 100, 4, .inl (fun _ => 0)), .inl (ev.2.2 100, 4, .inl (fun _ => 0))]) 14 2655
  refine c_ald (n := 0) 0 B (by decide +kernel) rfl ?_
  refine c_si (v := 160) (n := 160) B (by decide +kernel) rfl ?_
  refine c_newa (N := 160) B (by decide +kernel) (Or.inl ⟨rfl, rfl, rfl⟩) rfl (by decide) (by decide) (by decide) rfl ?_
  change CW _ _ _ _ _ _ _ _ _ _ _ _ _ _ 705 [(0, .ref h)] [.ref (h + 15), .ref h] ([.inr (6, [.ref (h + 1), .ref (h + 2), .ref (h + 3), .int 0, .ref (h + 4), .ref (h + 5), .ref (h + 6), .int 0, .ref (h + 7), .int 0, .ref (h + 8), .int 0, .int 0, .int 0, .int 0, .long 0, .ref (h + 9), .ref (h + 10), .ref (h + 11), .ref (h + 12), .ref (h + 13), .ref (h + 14), .null, .null]), .inl (ev.2.2 100, 120, .inl (fun _ => 0)), .inl (ev.2.2 100, 120, .inl (fun _ => 0)), .inl (ev.2.2 100, 120, .inl (fun _ => 0)), .inl (ev.2.2 100, 7, .inl (fun _ => 0)), .inl (ev.2.2 100, 1024, .inl (fun _ => 0)), .inl (ev.2.2 100, 10, .inl (fun _ => 0)), .inl (ev.2.2 100, 1024, .inl (fun _ => 0)), .inl (ev.2.2 100, 120, .inl (fun _ => 0)), .inl (ev.2.2 101, 42, .inl (ini vs9 42)), .inl (ev.2.2 101, 36, .inl (ini vs10 36)), .inl (ev.2.2 101, 18, .inl (ini vs11 18)), .inl (ev.2.2 100, 6, .inl (ini vs12 6)), .inl (ev.2.2 100, 4, .inl (fun _ => 0)), .inl (ev.2.2 100, 4, .inl (fun _ => 0)), .inl (ev.2.2 100, 160, .inl (fun _ => 0))]) 15 2815
  refine c_put (i := 53) (ci := 6) (j := 0) (k := 22) (ty := tyG 6 22) B (by decide +kernel) rfl (by decide) (by decide) rfl (lwG_at 1052 (by decide +kernel)) (tyG_ok 6 (by decide) 22 (by decide)) rfl rfl (Nat.le_of_ble_eq_true rfl) ?_
  change CW _ _ _ _ _ _ _ _ _ _ _ _ _ _ 708 [(0, .ref h)] [] ([.inr (6, [.ref (h + 1), .ref (h + 2), .ref (h + 3), .int 0, .ref (h + 4), .ref (h + 5), .ref (h + 6), .int 0, .ref (h + 7), .int 0, .ref (h + 8), .int 0, .int 0, .int 0, .int 0, .long 0, .ref (h + 9), .ref (h + 10), .ref (h + 11), .ref (h + 12), .ref (h + 13), .ref (h + 14), .ref (h + 15), .null]), .inl (ev.2.2 100, 120, .inl (fun _ => 0)), .inl (ev.2.2 100, 120, .inl (fun _ => 0)), .inl (ev.2.2 100, 120, .inl (fun _ => 0)), .inl (ev.2.2 100, 7, .inl (fun _ => 0)), .inl (ev.2.2 100, 1024, .inl (fun _ => 0)), .inl (ev.2.2 100, 10, .inl (fun _ => 0)), .inl (ev.2.2 100, 1024, .inl (fun _ => 0)), .inl (ev.2.2 100, 120, .inl (fun _ => 0)), .inl (ev.2.2 101, 42, .inl (ini vs9 42)), .inl (ev.2.2 101, 36, .inl (ini vs10 36)), .inl (ev.2.2 101, 18, .inl (ini vs11 18)), .inl (ev.2.2 100, 6, .inl (ini vs12 6)), .inl (ev.2.2 100, 4, .inl (fun _ => 0)), .inl (ev.2.2 100, 4, .inl (fun _ => 0)), .inl (ev.2.2 100, 160, .inl (fun _ => 0))]) 15 2815
  refine c_ald (n := 0) 0 B (by decide +kernel) rfl ?_
  refine c_bi (v := 40) (n := 40) B (by decide +kernel) rfl ?_
  refine c_newa (N := 40) B (by decide +kernel) (Or.inl ⟨rfl, rfl, rfl⟩) rfl (by decide) (by decide) (by decide) rfl ?_
  change CW _ _ _ _ _ _ _ _ _ _ _ _ _ _ 713 [(0, .ref h)] [.ref (h + 16), .ref h] ([.inr (6, [.ref (h + 1), .ref (h + 2), .ref (h + 3), .int 0, .ref (h + 4), .ref (h + 5), .ref (h + 6), .int 0, .ref (h + 7), .int 0, .ref (h + 8), .int 0, .int 0, .int 0, .int 0, .long 0, .ref (h + 9), .ref (h + 10), .ref (h + 11), .ref (h + 12), .ref (h + 13), .ref (h + 14), .ref (h + 15), .null]), .inl (ev.2.2 100, 120, .inl (fun _ => 0)), .inl (ev.2.2 100, 120, .inl (fun _ => 0)), .inl (ev.2.2 100, 120, .inl (fun _ => 0)), .inl (ev.2.2 100, 7, .inl (fun _ => 0)), .inl (ev.2.2 100, 1024, .inl (fun _ => 0)), .inl (ev.2.2 100, 10, .inl (fun _ => 0)), .inl (ev.2.2 100, 1024, .inl (fun _ => 0)), .inl (ev.2.2 100, 120, .inl (fun _ => 0)), .inl (ev.2.2 101, 42, .inl (ini vs9 42)), .inl (ev.2.2 101, 36, .inl (ini vs10 36)), .inl (ev.2.2 101, 18, .inl (ini vs11 18)), .inl (ev.2.2 100, 6, .inl (ini vs12 6)), .inl (ev.2.2 100, 4, .inl (fun _ => 0)), .inl (ev.2.2 100, 4, .inl (fun _ => 0)), .inl (ev.2.2 100, 160, .inl (fun _ => 0)), .inl (ev.2.2 100, 40, .inl (fun _ => 0))]) 16 2855
  refine c_put (i := 56) (ci := 6) (j := 0) (k := 23) (ty := tyG 6 23) B (by decide +kernel) rfl (by decide) (by decide) rfl (lwG_at 1053 (by decide +kernel)) (tyG_ok 6 (by decide) 23 (by decide)) rfl rfl (Nat.le_of_ble_eq_true rfl) ?_
  change CW _ _ _ _ _ _ _ _ _ _ _ _ _ _ 716 [(0, .ref h)] [] ([.inr (6, [.ref (h + 1), .ref (h + 2), .ref (h + 3), .int 0, .ref (h + 4), .ref (h + 5), .ref (h + 6), .int 0, .ref (h + 7), .int 0, .ref (h + 8), .int 0, .int 0, .int 0, .int 0, .long 0, .ref (h + 9), .ref (h + 10), .ref (h + 11), .ref (h + 12), .ref (h + 13), .ref (h + 14), .ref (h + 15), .ref (h + 16)]), .inl (ev.2.2 100, 120, .inl (fun _ => 0)), .inl (ev.2.2 100, 120, .inl (fun _ => 0)), .inl (ev.2.2 100, 120, .inl (fun _ => 0)), .inl (ev.2.2 100, 7, .inl (fun _ => 0)), .inl (ev.2.2 100, 1024, .inl (fun _ => 0)), .inl (ev.2.2 100, 10, .inl (fun _ => 0)), .inl (ev.2.2 100, 1024, .inl (fun _ => 0)), .inl (ev.2.2 100, 120, .inl (fun _ => 0)), .inl (ev.2.2 101, 42, .inl (ini vs9 42)), .inl (ev.2.2 101, 36, .inl (ini vs10 36)), .inl (ev.2.2 101, 18, .inl (ini vs11 18)), .inl (ev.2.2 100, 6, .inl (ini vs12 6)), .inl (ev.2.2 100, 4, .inl (fun _ => 0)), .inl (ev.2.2 100, 4, .inl (fun _ => 0)), .inl (ev.2.2 100, 160, .inl (fun _ => 0)), .inl (ev.2.2 100, 40, .inl (fun _ => 0))]) 16 2855
  refine c_ald (n := 0) 0 B (by decide +kernel) rfl ?_
  refine c_get (i := 9) (ci := 6) (j := 0) (k := 0) (v := .ref (h + 1)) B (by decide +kernel) rfl (by decide) (by decide) (lwG_at 1030 (by decide +kernel)) rfl ?_
  refine c_bi (v := 7) (n := 7) B (by decide +kernel) rfl ?_
  refine c_ic (v := 5) (n := 5) B (by decide +kernel) rfl ?_
  refine c_iast (j := 1) (N := 120) (i := 7) (f := fun _ => 0) B (by decide +kernel) rfl (by decide) (by decide) ?_
  change CW _ _ _ _ _ _ _ _ _ _ _ _ _ _ 724 [(0, .ref h)] [] ([.inr (6, [.ref (h + 1), .ref (h + 2), .ref (h + 3), .int 0, .ref (h + 4), .ref (h + 5), .ref (h + 6), .int 0, .ref (h + 7), .int 0, .ref (h + 8), .int 0, .int 0, .int 0, .int 0, .long 0, .ref (h + 9), .ref (h + 10), .ref (h + 11), .ref (h + 12), .ref (h + 13), .ref (h + 14), .ref (h + 15), .ref (h + 16)]), .inl (ev.2.2 100, 120, .inl (upd (fun _ => 0) 7 (5))), .inl (ev.2.2 100, 120, .inl (fun _ => 0)), .inl (ev.2.2 100, 120, .inl (fun _ => 0)), .inl (ev.2.2 100, 7, .inl (fun _ => 0)), .inl (ev.2.2 100, 1024, .inl (fun _ => 0)), .inl (ev.2.2 100, 10, .inl (fun _ => 0)), .inl (ev.2.2 100, 1024, .inl (fun _ => 0)), .inl (ev.2.2 100, 120, .inl (fun _ => 0)), .inl (ev.2.2 101, 42, .inl (ini vs9 42)), .inl (ev.2.2 101, 36, .inl (ini vs10 36)), .inl (ev.2.2 101, 18, .inl (ini vs11 18)), .inl (ev.2.2 100, 6, .inl (ini vs12 6)), .inl (ev.2.2 100, 4, .inl (fun _ => 0)), .inl (ev.2.2 100, 4, .inl (fun _ => 0)), .inl (ev.2.2 100, 160, .inl (fun _ => 0)), .inl (ev.2.2 100, 40, .inl (fun _ => 0))]) 16 2855
  refine c_ald (n := 0) 0 B (by decide +kernel) rfl ?_
  refine c_get (i := 9) (ci := 6) (j := 0) (k := 0) (v := .ref (h + 1)) B (by decide +kernel) rfl (by decide) (by decide) (lwG_at 1030 (by decide +kernel)) rfl ?_
  refine c_bi (v := 8) (n := 8) B (by decide +kernel) rfl ?_
  refine c_ic (v := 5) (n := 5) B (by decide +kernel) rfl ?_
  refine c_iast (j := 1) (N := 120) (i := 8) (f := upd (fun _ => 0) 7 (5)) B (by decide +kernel) rfl (by decide) (by decide) ?_
  change CW _ _ _ _ _ _ _ _ _ _ _ _ _ _ 732 [(0, .ref h)] [] ([.inr (6, [.ref (h + 1), .ref (h + 2), .ref (h + 3), .int 0, .ref (h + 4), .ref (h + 5), .ref (h + 6), .int 0, .ref (h + 7), .int 0, .ref (h + 8), .int 0, .int 0, .int 0, .int 0, .long 0, .ref (h + 9), .ref (h + 10), .ref (h + 11), .ref (h + 12), .ref (h + 13), .ref (h + 14), .ref (h + 15), .ref (h + 16)]), .inl (ev.2.2 100, 120, .inl (upd (upd (fun _ => 0) 7 (5)) 8 (5))), .inl (ev.2.2 100, 120, .inl (fun _ => 0)), .inl (ev.2.2 100, 120, .inl (fun _ => 0)), .inl (ev.2.2 100, 7, .inl (fun _ => 0)), .inl (ev.2.2 100, 1024, .inl (fun _ => 0)), .inl (ev.2.2 100, 10, .inl (fun _ => 0)), .inl (ev.2.2 100, 1024, .inl (fun _ => 0)), .inl (ev.2.2 100, 120, .inl (fun _ => 0)), .inl (ev.2.2 101, 42, .inl (ini vs9 42)), .inl (ev.2.2 101, 36, .inl (ini vs10 36)), .inl (ev.2.2 101, 18, .inl (ini vs11 18)), .inl (ev.2.2 100, 6, .inl (ini vs12 6)), .inl (ev.2.2 100, 4, .inl (fun _ => 0)), .inl (ev.2.2 100, 4, .inl (fun _ => 0)), .inl (ev.2.2 100, 160, .inl (fun _ => 0)), .inl (ev.2.2 100, 40, .inl (fun _ => 0))]) 16 2855
  refine c_ald (n := 0) 0 B (by decide +kernel) rfl ?_
  refine c_get (i := 9) (ci := 6) (j := 0) (k := 0) (v := .ref (h + 1)) B (by decide +kernel) rfl (by decide) (by decide) (lwG_at 1030 (by decide +kernel)) rfl ?_
  refine c_bi (v := 9) (n := 9) B (by decide +kernel) rfl ?_
  refine c_ic (v := 1) (n := 1) B (by decide +kernel) rfl ?_
  refine c_iast (j := 1) (N := 120) (i := 9) (f := upd (upd (fun _ => 0) 7 (5)) 8 (5)) B (by decide +kernel) rfl (by decide) (by decide) ?_
  change CW _ _ _ _ _ _ _ _ _ _ _ _ _ _ 740 [(0, .ref h)] [] ([.inr (6, [.ref (h + 1), .ref (h + 2), .ref (h + 3), .int 0, .ref (h + 4), .ref (h + 5), .ref (h + 6), .int 0, .ref (h + 7), .int 0, .ref (h + 8), .int 0, .int 0, .int 0, .int 0, .long 0, .ref (h + 9), .ref (h + 10), .ref (h + 11), .ref (h + 12), .ref (h + 13), .ref (h + 14), .ref (h + 15), .ref (h + 16)]), .inl (ev.2.2 100, 120, .inl (upd (upd (upd (fun _ => 0) 7 (5)) 8 (5)) 9 (1))), .inl (ev.2.2 100, 120, .inl (fun _ => 0)), .inl (ev.2.2 100, 120, .inl (fun _ => 0)), .inl (ev.2.2 100, 7, .inl (fun _ => 0)), .inl (ev.2.2 100, 1024, .inl (fun _ => 0)), .inl (ev.2.2 100, 10, .inl (fun _ => 0)), .inl (ev.2.2 100, 1024, .inl (fun _ => 0)), .inl (ev.2.2 100, 120, .inl (fun _ => 0)), .inl (ev.2.2 101, 42, .inl (ini vs9 42)), .inl (ev.2.2 101, 36, .inl (ini vs10 36)), .inl (ev.2.2 101, 18, .inl (ini vs11 18)), .inl (ev.2.2 100, 6, .inl (ini vs12 6)), .inl (ev.2.2 100, 4, .inl (fun _ => 0)), .inl (ev.2.2 100, 4, .inl (fun _ => 0)), .inl (ev.2.2 100, 160, .inl (fun _ => 0)), .inl (ev.2.2 100, 40, .inl (fun _ => 0))]) 16 2855
  refine c_ic (v := 0) (n := 0) B (by decide +kernel) rfl ?_
  refine c_ist (k := 1) (lv' := [(1, .int 0), (0, .ref h)]) B (by decide +kernel) (by decide) rfl ?_
  change CW _ _ _ _ _ _ _ _ _ _ _ _ _ _ 742 [(1, .int 0), (0, .ref h)] [] ([.inr (6, [.ref (h + 1), .ref (h + 2), .ref (h + 3), .int 0, .ref (h + 4), .ref (h + 5), .ref (h + 6), .int 0, .ref (h + 7), .int 0, .ref (h + 8), .int 0, .int 0, .int 0, .int 0, .long 0, .ref (h + 9), .ref (h + 10), .ref (h + 11), .ref (h + 12), .ref (h + 13), .ref (h + 14), .ref (h + 15), .ref (h + 16)]), .inl (ev.2.2 100, 120, .inl (upd (upd (upd (fun _ => 0) 7 (5)) 8 (5)) 9 (1))), .inl (ev.2.2 100, 120, .inl (fun _ => 0)), .inl (ev.2.2 100, 120, .inl (fun _ => 0)), .inl (ev.2.2 100, 7, .inl (fun _ => 0)), .inl (ev.2.2 100, 1024, .inl (fun _ => 0)), .inl (ev.2.2 100, 10, .inl (fun _ => 0)), .inl (ev.2.2 100, 1024, .inl (fun _ => 0)), .inl (ev.2.2 100, 120, .inl (fun _ => 0)), .inl (ev.2.2 101, 42, .inl (ini vs9 42)), .inl (ev.2.2 101, 36, .inl (ini vs10 36)), .inl (ev.2.2 101, 18, .inl (ini vs11 18)), .inl (ev.2.2 100, 6, .inl (ini vs12 6)), .inl (ev.2.2 100, 4, .inl (fun _ => 0)), .inl (ev.2.2 100, 4, .inl (fun _ => 0)), .inl (ev.2.2 100, 160, .inl (fun _ => 0)), .inl (ev.2.2 100, 40, .inl (fun _ => 0))]) 16 2855
  refine c_to (L2 := [.inr (6, [.ref (h + 1), .ref (h + 2), .ref (h + 3), .int 0, .ref (h + 4), .ref (h + 5), .ref (h + 6), .int 0, .ref (h + 7), .int 0, .ref (h + 8), .int 0, .int 0, .int 0, .int 0, .long 0, .ref (h + 9), .ref (h + 10), .ref (h + 11), .ref (h + 12), .ref (h + 13), .ref (h + 14), .ref (h + 15), .ref (h + 16)]), .inl (ev.2.2 100, 120, .inl (spF (upd (upd (upd (fun _ => 0) 7 (5)) 8 (5)) 9 (1)) 0)), .inl (ev.2.2 100, 120, .inl (fun _ => 0)), .inl (ev.2.2 100, 120, .inl (fun _ => 0)), .inl (ev.2.2 100, 7, .inl (fun _ => 0)), .inl (ev.2.2 100, 1024, .inl (fun _ => 0)), .inl (ev.2.2 100, 10, .inl (fun _ => 0)), .inl (ev.2.2 100, 1024, .inl (fun _ => 0)), .inl (ev.2.2 100, 120, .inl (fun _ => 0)), .inl (ev.2.2 101, 42, .inl (ini vs9 42)), .inl (ev.2.2 101, 36, .inl (ini vs10 36)), .inl (ev.2.2 101, 18, .inl (ini vs11 18)), .inl (ev.2.2 100, 6, .inl (ini vs12 6)), .inl (ev.2.2 100, 4, .inl (fun _ => 0)), .inl (ev.2.2 100, 4, .inl (fun _ => 0)), .inl (ev.2.2 100, 160, .inl (fun _ => 0)), .inl (ev.2.2 100, 40, .inl (fun _ => 0))]) (by rw [spF_0]) ?_
  refine c_loopM (f := upd (upd (upd (fun _ => 0) 7 (5)) 8 (5)) 9 (1)) B rfl ?_ 10 0 rfl
  change CW _ _ _ _ _ _ _ _ _ _ _ _ _ _ 764 [(1, .int 10), (0, .ref h)] [] ([.inr (6, [.ref (h + 1), .ref (h + 2), .ref (h + 3), .int 0, .ref (h + 4), .ref (h + 5), .ref (h + 6), .int 0, .ref (h + 7), .int 0, .ref (h + 8), .int 0, .int 0, .int 0, .int 0, .long 0, .ref (h + 9), .ref (h + 10), .ref (h + 11), .ref (h + 12), .ref (h + 13), .ref (h + 14), .ref (h + 15), .ref (h + 16)]), .inl (ev.2.2 100, 120, .inl (spF (upd (upd (upd (fun _ => 0) 7 (5)) 8 (5)) 9 (1)) 10)), .inl (ev.2.2 100, 120, .inl (fun _ => 0)), .inl (ev.2.2 100, 120, .inl (fun _ => 0)), .inl (ev.2.2 100, 7, .inl (fun _ => 0)), .inl (ev.2.2 100, 1024, .inl (fun _ => 0)), .inl (ev.2.2 100, 10, .inl (fun _ => 0)), .inl (ev.2.2 100, 1024, .inl (fun _ => 0)), .inl (ev.2.2 100, 120, .inl (fun _ => 0)), .inl (ev.2.2 101, 42, .inl (ini vs9 42)), .inl (ev.2.2 101, 36, .inl (ini vs10 36)), .inl (ev.2.2 101, 18, .inl (ini vs11 18)), .inl (ev.2.2 100, 6, .inl (ini vs12 6)), .inl (ev.2.2 100, 4, .inl (fun _ => 0)), .inl (ev.2.2 100, 4, .inl (fun _ => 0)), .inl (ev.2.2 100, 160, .inl (fun _ => 0)), .inl (ev.2.2 100, 40, .inl (fun _ => 0))]) 16 2855
  exact c_ret B (by decide +kernel) rfl
end CT
