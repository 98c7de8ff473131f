/-! the starts of the parts -/
section CT
variable {ev : EV} {h h0 fr : Nat}
theorem c_ldcX {p : Program} {l : Launch} {e : Env} {R : Room} {s : State} {m : MethodId} {args : Array Value} {below : List Frame} {meth : Method} {c : Code} {own : String} {cc : ByteArray} {nL : Nat} {Q : State → Prop} {pc i : Nat} {v : Int32} {lv : List (Nat × Value)} {st : List Value} {L : List va_E} {kc ks : Nat} (B : BC ev own cc nL h h0 fr p s m args meth c) (hd : decode cc pc = .ok (.ldc i, 2)) (hw : Cond.constant own i v ∈ lwG) (kk : CW p l e R s m args below meth c ev nL h Q (pc + 2) lv (.int v :: st) L kc ks) : CW p l e R s m args below meth c ev nL h Q pc lv st L kc ks := fun H locs ms hB hS hl =>
  lv_ldc B.1 B.2.1 B.2.2.2.2.1 (B.2.2.2.2.2.1 _ hw) hd (kk H locs ms hB hS hl)
def L_Sheet (ev : EV) (h : Nat) : List va_E := [.inr (1, [.ref (h + 1), .int 0, .int 0]), .inl (ev.2.2 100, 40, .inl (fun _ => 0))]
theorem ct_Sheet (l : Launch) (h0h : h0 ≤ h) : CtM l ev ⟨"ChainedChest$Sheet", "<init>", "()V"⟩ prog_3_method_1_code 1 [] h h0 fr 1 [.inr (1, zeroL 1)] (L_Sheet ev h) 1 40 := by
  refine ct_of (by decide) rfl h0h (Nat.le_of_ble_eq_true rfl) ?_
  intro p e s m args below meth c B
  change CW _ _ _ _ _ _ _ _ _ _ _ _ _ _ 0 _ [] [.inr (1, [.null, .int 0, .int 0])] 0 0
  refine c_ald (n := 0) 0 B (by decide +kernel) rfl ?_
  refine c_obj (i := 1) B (by decide +kernel) ⟨(lwG_at 230 (by decide +kernel)), (lwG_at 82 (by decide +kernel)), lwG_at 83 (by decide +kernel)⟩ (by decide) ?_
  change CW _ _ _ _ _ _ _ _ _ _ _ _ _ _ 4 _ [] [.inr (1, [.null, .int 0, .int 0])] 0 0
  refine c_ald (n := 0) 0 B (by decide +kernel) rfl ?_
  refine c_bi (v := 40) (n := 40) B (by decide +kernel) rfl ?_
  refine c_newa (N := 40) B (by decide +kernel) (Or.inl ⟨rfl, rfl, rfl⟩) rfl (by decide) (by decide) (by decide) rfl ?_
  change CW _ _ _ _ _ _ _ _ _ _ _ _ _ _ 9 _ [.ref (h + 1), .ref h] [.inr (1, [.null, .int 0, .int 0]), .inl (ev.2.2 100, 40, .inl (fun _ => 0))] 1 40
  refine c_put (i := 9) (ci := 1) (j := 0) (k := 0) (ty := tyG 1 0) B (by decide +kernel) rfl (by decide) (by decide) rfl (lwG_at 231 (by decide +kernel)) (tyG_ok 1 (by decide) 0 (by decide)) rfl rfl (Nat.le_of_ble_eq_true rfl) ?_
  change CW _ _ _ _ _ _ _ _ _ _ _ _ _ _ 12 _ [] [.inr (1, [.ref (h + 1), .int 0, .int 0]), .inl (ev.2.2 100, 40, .inl (fun _ => 0))] 1 40
  refine c_ald (n := 0) 0 B (by decide +kernel) rfl ?_
  refine c_ic (v := 0) (n := 0) B (by decide +kernel) rfl ?_
  refine c_put (i := 13) (ci := 1) (j := 0) (k := 1) (ty := tyG 1 1) B (by decide +kernel) rfl (by decide) (by decide) rfl (lwG_at 232 (by decide +kernel)) (tyG_ok 1 (by decide) 1 (by decide)) rfl rfl (Nat.le_of_ble_eq_true rfl) ?_
  change CW _ _ _ _ _ _ _ _ _ _ _ _ _ _ 17 _ [] [.inr (1, [.ref (h + 1), .int 0, .int 0]), .inl (ev.2.2 100, 40, .inl (fun _ => 0))] 1 40
  refine c_ald (n := 0) 0 B (by decide +kernel) rfl ?_
  refine c_ic (v := 0) (n := 0) B (by decide +kernel) rfl ?_
  refine c_put (i := 17) (ci := 1) (j := 0) (k := 2) (ty := tyG 1 2) B (by decide +kernel) rfl (by decide) (by decide) rfl (lwG_at 233 (by decide +kernel)) (tyG_ok 1 (by decide) 2 (by decide)) rfl rfl (Nat.le_of_ble_eq_true rfl) ?_
  change CW _ _ _ _ _ _ _ _ _ _ _ _ _ _ 22 _ [] [.inr (1, [.ref (h + 1), .int 0, .int 0]), .inl (ev.2.2 100, 40, .inl (fun _ => 0))] 1 40
  exact c_ret B (by decide +kernel) rfl
def L_Tape (ev : EV) (h : Nat) : List va_E := [.inr (3, [.ref (h + 1), .int 0, .int 0, .int 0, .int 0, .int 0]), .inl (ev.2.2 100, 120, .inl (fun _ => 0))]
theorem ct_Tape (l : Launch) (h0h : h0 ≤ h) : CtM l ev ⟨"ChainedChest$Tape", "<init>", "()V"⟩ prog_5_method_1_code 1 [] h h0 fr 1 [.inr (3, zeroL 3)] (L_Tape ev h) 1 120 := by
  refine ct_of (by decide) rfl h0h (Nat.le_of_ble_eq_true rfl) ?_
  intro p e s m args below meth c B
  change CW _ _ _ _ _ _ _ _ _ _ _ _ _ _ 0 _ [] [.inr (3, [.null, .int 0, .int 0, .int 0, .int 0, .int 0])] 0 0
  refine c_ald (n := 0) 0 B (by decide +kernel) rfl ?_
  refine c_obj (i := 1) B (by decide +kernel) ⟨(lwG_at 204 (by decide +kernel)), (lwG_at 82 (by decide +kernel)), lwG_at 83 (by decide +kernel)⟩ (by decide) ?_
  change CW _ _ _ _ _ _ _ _ _ _ _ _ _ _ 4 _ [] [.inr (3, [.null, .int 0, .int 0, .int 0, .int 0, .int 0])] 0 0
  refine c_ald (n := 0) 0 B (by decide +kernel) rfl ?_
  refine c_bi (v := 120) (n := 120) B (by decide +kernel) rfl ?_
  refine c_newa (N := 120) B (by decide +kernel) (Or.inl ⟨rfl, rfl, rfl⟩) rfl (by decide) (by decide) (by decide) rfl ?_
  change CW _ _ _ _ _ _ _ _ _ _ _ _ _ _ 9 _ [.ref (h + 1), .ref h] [.inr (3, [.null, .int 0, .int 0, .int 0, .int 0, .int 0]), .inl (ev.2.2 100, 120, .inl (fun _ => 0))] 1 120
  refine c_put (i := 9) (ci := 3) (j := 0) (k := 0) (ty := tyG 3 0) B (by decide +kernel) rfl (by decide) (by decide) rfl (lwG_at 205 (by decide +kernel)) (tyG_ok 3 (by decide) 0 (by decide)) rfl rfl (Nat.le_of_ble_eq_true rfl) ?_
  change CW _ _ _ _ _ _ _ _ _ _ _ _ _ _ 12 _ [] [.inr (3, [.ref (h + 1), .int 0, .int 0, .int 0, .int 0, .int 0]), .inl (ev.2.2 100, 120, .inl (fun _ => 0))] 1 120
  refine c_ald (n := 0) 0 B (by decide +kernel) rfl ?_
  refine c_ic (v := 0) (n := 0) B (by decide +kernel) rfl ?_
  refine c_put (i := 13) (ci := 3) (j := 0) (k := 1) (ty := tyG 3 1) B (by decide +kernel) rfl (by decide) (by decide) rfl (lwG_at 206 (by decide +kernel)) (tyG_ok 3 (by decide) 1 (by decide)) rfl rfl (Nat.le_of_ble_eq_true rfl) ?_
  change CW _ _ _ _ _ _ _ _ _ _ _ _ _ _ 17 _ [] [.inr (3, [.ref (h + 1), .int 0, .int 0, .int 0, .int 0, .int 0]), .inl (ev.2.2 100, 120, .inl (fun _ => 0))] 1 120
  refine c_ald (n := 0) 0 B (by decide +kernel) rfl ?_
  refine c_ic (v := 0) (n := 0) B (by decide +kernel) rfl ?_
  refine c_put (i := 17) (ci := 3) (j := 0) (k := 2) (ty := tyG 3 2) B (by decide +kernel) rfl (by decide) (by decide) rfl (lwG_at 207 (by decide +kernel)) (tyG_ok 3 (by decide) 2 (by decide)) rfl rfl (Nat.le_of_ble_eq_true rfl) ?_
  change CW _ _ _ _ _ _ _ _ _ _ _ _ _ _ 22 _ [] [.inr (3, [.ref (h + 1), .int 0, .int 0, .int 0, .int 0, .int 0]), .inl (ev.2.2 100, 120, .inl (fun _ => 0))] 1 120
  refine c_ald (n := 0) 0 B (by decide +kernel) rfl ?_
  refine c_ic (v := 0) (n := 0) B (by decide +kernel) rfl ?_
  refine c_put (i := 20) (ci := 3) (j := 0) (k := 3) (ty := tyG 3 3) B (by decide +kernel) rfl (by decide) (by decide) rfl (lwG_at 208 (by decide +kernel)) (tyG_ok 3 (by decide) 3 (by decide)) rfl rfl (Nat.le_of_ble_eq_true rfl) ?_
  change CW _ _ _ _ _ _ _ _ _ _ _ _ _ _ 27 _ [] [.inr (3, [.ref (h + 1), .int 0, .int 0, .int 0, .int 0, .int 0]), .inl (ev.2.2 100, 120, .inl (fun _ => 0))] 1 120
  refine c_ald (n := 0) 0 B (by decide +kernel) rfl ?_
  refine c_ic (v := 0) (n := 0) B (by decide +kernel) rfl ?_
  refine c_put (i := 23) (ci := 3) (j := 0) (k := 4) (ty := tyG 3 4) B (by decide +kernel) rfl (by decide) (by decide) rfl (lwG_at 209 (by decide +kernel)) (tyG_ok 3 (by decide) 4 (by decide)) rfl rfl (Nat.le_of_ble_eq_true rfl) ?_
  change CW _ _ _ _ _ _ _ _ _ _ _ _ _ _ 32 _ [] [.inr (3, [.ref (h + 1), .int 0, .int 0, .int 0, .int 0, .int 0]), .inl (ev.2.2 100, 120, .inl (fun _ => 0))] 1 120
  refine c_ald (n := 0) 0 B (by decide +kernel) rfl ?_
  refine c_ic (v := 0) (n := 0) B (by decide +kernel) rfl ?_
  refine c_put (i := 26) (ci := 3) (j := 0) (k := 5) (ty := tyG 3 5) B (by decide +kernel) rfl (by decide) (by decide) rfl (lwG_at 210 (by decide +kernel)) (tyG_ok 3 (by decide) 5 (by decide)) rfl rfl (Nat.le_of_ble_eq_true rfl) ?_
  change CW _ _ _ _ _ _ _ _ _ _ _ _ _ _ 37 _ [] [.inr (3, [.ref (h + 1), .int 0, .int 0, .int 0, .int 0, .int 0]), .inl (ev.2.2 100, 120, .inl (fun _ => 0))] 1 120
  exact c_ret B (by decide +kernel) rfl
def L_Smith (ev : EV) (h : Nat) (x1 : Nat) (x2 : Nat) : List va_E := [.inr (2, [.ref x1, .ref x2, .int 2147483647, .int 2147483647])]
theorem ct_Smith (l : Launch) {x1 : Nat} {x2 : Nat} (h0h : h0 ≤ h) : CtM l ev ⟨"ChainedChest$Smith", "<init>", "(LChainedChest$Chest;LChainedChest$Ways;)V"⟩ prog_4_method_1_code 3 [.ref x1, .ref x2] h h0 fr 1 [.inr (2, zeroL 2)] (L_Smith ev h x1 x2) 0 0 := by
  refine ct_of (by decide) rfl h0h (Nat.le_of_ble_eq_true rfl) ?_
  intro p e s m args below meth c B
  change CW _ _ _ _ _ _ _ _ _ _ _ _ _ _ 0 _ [] [.inr (2, [.null, .null, .int 0, .int 0])] 0 0
  refine c_ald (n := 0) 0 B (by decide +kernel) rfl ?_
  refine c_obj (i := 1) B (by decide +kernel) ⟨(lwG_at 184 (by decide +kernel)), (lwG_at 82 (by decide +kernel)), lwG_at 83 (by decide +kernel)⟩ (by decide) ?_
  change CW _ _ _ _ _ _ _ _ _ _ _ _ _ _ 4 _ [] [.inr (2, [.null, .null, .int 0, .int 0])] 0 0
  refine c_ald (n := 0) 0 B (by decide +kernel) rfl ?_
  refine c_ldcX (v := 2147483647) (i := 9) B (by decide +kernel) (lwG_at 185 (by decide +kernel)) ?_
  refine c_put (i := 10) (ci := 2) (j := 0) (k := 2) (ty := tyG 2 2) B (by decide +kernel) rfl (by decide) (by decide) rfl (lwG_at 188 (by decide +kernel)) (tyG_ok 2 (by decide) 2 (by decide)) rfl rfl (Nat.le_of_ble_eq_true rfl) ?_
  change CW _ _ _ _ _ _ _ _ _ _ _ _ _ _ 10 _ [] [.inr (2, [.null, .null, .int 2147483647, .int 0])] 0 0
  refine c_ald (n := 0) 0 B (by decide +kernel) rfl ?_
  refine c_ldcX (v := 2147483647) (i := 9) B (by decide +kernel) (lwG_at 185 (by decide +kernel)) ?_
  refine c_put (i := 16) (ci := 2) (j := 0) (k := 3) (ty := tyG 2 3) B (by decide +kernel) rfl (by decide) (by decide) rfl (lwG_at 189 (by decide +kernel)) (tyG_ok 2 (by decide) 3 (by decide)) rfl rfl (Nat.le_of_ble_eq_true rfl) ?_
  change CW _ _ _ _ _ _ _ _ _ _ _ _ _ _ 16 _ [] [.inr (2, [.null, .null, .int 2147483647, .int 2147483647])] 0 0
  refine c_ald (n := 0) 0 B (by decide +kernel) rfl ?_
  refine c_ald (n := 1) 1 B (by decide +kernel) rfl ?_
  refine c_put (i := 19) (ci := 2) (j := 0) (k := 0) (ty := tyG 2 0) B (by decide +kernel) rfl (by decide) (by decide) rfl (lwG_at 186 (by decide +kernel)) (tyG_ok 2 (by decide) 0 (by decide)) rfl rfl (Nat.le_of_ble_eq_true rfl) ?_
  change CW _ _ _ _ _ _ _ _ _ _ _ _ _ _ 21 _ [] [.inr (2, [.ref x1, .null, .int 2147483647, .int 2147483647])] 0 0
  refine c_ald (n := 0) 0 B (by decide +kernel) rfl ?_
  refine c_ald (n := 2) 2 B (by decide +kernel) rfl ?_
  refine c_put (i := 23) (ci := 2) (j := 0) (k := 1) (ty := tyG 2 1) B (by decide +kernel) rfl (by decide) (by decide) rfl (lwG_at 187 (by decide +kernel)) (tyG_ok 2 (by decide) 1 (by decide)) rfl rfl (Nat.le_of_ble_eq_true rfl) ?_
  change CW _ _ _ _ _ _ _ _ _ _ _ _ _ _ 26 _ [] [.inr (2, [.ref x1, .ref x2, .int 2147483647, .int 2147483647])] 0 0
  exact c_ret B (by decide +kernel) rfl
def L_Ways (ev : EV) (h : Nat) (x1 : Nat) : List va_E := [.inr (4, [.ref x1, .ref (h + 1), .ref (h + 2), .ref (h + 3), .ref (h + 4), .ref (h + 5), .ref (h + 6), .int 0, .int 0, .int 0, .int 0, .int 0]), .inl (ev.2.2 100, 1024, .inl (fun _ => 0)), .inl (ev.2.2 100, 1024, .inl (fun _ => 0)), .inl (ev.2.2 100, 1024, .inl (fun _ => 0)), .inl (ev.2.2 100, 1024, .inl (fun _ => 0)), .inl (ev.2.2 100, 1024, .inl (fun _ => 0)), .inl (ev.2.2 100, 10, .inl (fun _ => 0))]
theorem ct_Ways (l : Launch) {x1 : Nat} (h0h : h0 ≤ h) : CtM l ev ⟨"ChainedChest$Ways", "<init>", "(LChainedChest$Chest;)V"⟩ prog_6_method_1_code 2 [.ref x1] h h0 fr 1 [.inr (4, zeroL 4)] (L_Ways ev h x1) 6 5130 := by
  refine ct_of (by decide) rfl h0h (Nat.le_of_ble_eq_true rfl) ?_
  intro p e s m args below meth c B
  change CW _ _ _ _ _ _ _ _ _ _ _ _ _ _ 0 _ [] [.inr (4, [.null, .null, .null, .null, .null, .null, .null, .int 0, .int 0, .int 0, .int 0, .int 0])] 0 0
  refine c_ald (n := 0) 0 B (by decide +kernel) rfl ?_
  refine c_obj (i := 3) B (by decide +kernel) ⟨(lwG_at 141 (by decide +kernel)), (lwG_at 82 (by decide +kernel)), lwG_at 83 (by decide +kernel)⟩ (by decide) ?_
  change CW _ _ _ _ _ _ _ _ _ _ _ _ _ _ 4 _ [] [.inr (4, [.null, .null, .null, .null, .null, .null, .null, .int 0, .int 0, .int 0, .int 0, .int 0])] 0 0
  refine c_ald (n := 0) 0 B (by decide +kernel) rfl ?_
  refine c_si (v := 1024) (n := 1024) B (by decide +kernel) rfl ?_
  refine c_newa (N := 1024) B (by decide +kernel) (Or.inl ⟨rfl, rfl, rfl⟩) rfl (by decide) (by decide) (by decide) rfl ?_
  change CW _ _ _ _ _ _ _ _ _ _ _ _ _ _ 10 _ [.ref (h + 1), .ref h] [.inr (4, [.null, .null, .null, .null, .null, .null, .null, .int 0, .int 0, .int 0, .int 0, .int 0]), .inl (ev.2.2 100, 1024, .inl (fun _ => 0))] 1 1024
  refine c_put (i := 11) (ci := 4) (j := 0) (k := 1) (ty := tyG 4 1) B (by decide +kernel) rfl (by decide) (by decide) rfl (lwG_at 143 (by decide +kernel)) (tyG_ok 4 (by decide) 1 (by decide)) rfl rfl (Nat.le_of_ble_eq_true rfl) ?_
  change CW _ _ _ _ _ _ _ _ _ _ _ _ _ _ 13 _ [] [.inr (4, [.null, .ref (h + 1), .null, .null, .null, .null, .null, .int 0, .int 0, .int 0, .int 0, .int 0]), .inl (ev.2.2 100, 1024, .inl (fun _ => 0))] 1 1024
  refine c_ald (n := 0) 0 B (by decide +kernel) rfl ?_
  refine c_si (v := 1024) (n := 1024) B (by decide +kernel) rfl ?_
  refine c_newa (N := 1024) B (by decide +kernel) (Or.inl ⟨rfl, rfl, rfl⟩) rfl (by decide) (by decide) (by decide) rfl ?_
  change CW _ _ _ _ _ _ _ _ _ _ _ _ _ _ 19 _ [.ref (h + 2), .ref h] [.inr (4, [.null, .ref (h + 1), .null, .null, .null, .null, .null, .int 0, .int 0, .int 0, .int 0, .int 0]), .inl (ev.2.2 100, 1024, .inl (fun _ => 0)), .inl (ev.2.2 100, 1024, .inl (fun _ => 0))] 2 2048
  refine c_put (i := 15) (ci := 4) (j := 0) (k := 2) (ty := tyG 4 2) B (by decide +kernel) rfl (by decide) (by decide) rfl (lwG_at 144 (by decide +kernel)) (tyG_ok 4 (by decide) 2 (by decide)) rfl rfl (Nat.le_of_ble_eq_true rfl) ?_
  change CW _ _ _ _ _ _ _ _ _ _ _ _ _ _ 22 _ [] [.inr (4, [.null, .ref (h + 1), .ref (h + 2), .null, .null, .null, .null, .int 0, .int 0, .int 0, .int 0, .int 0]), .inl (ev.2.2 100, 1024, .inl (fun _ => 0)), .inl (ev.2.2 100, 1024, .inl (fun _ => 0))] 2 2048
  refine c_ald (n := 0) 0 B (by decide +kernel) rfl ?_
  refine c_si (v := 1024) (n := 1024) B (by decide +kernel) rfl ?_
  refine c_newa (N := 1024) B (by decide +kernel) (Or.inl ⟨rfl, rfl, rfl⟩) rfl (by decide) (by decide) (by decide) rfl ?_
  change CW _ _ _ _ _ _ _ _ _ _ _ _ _ _ 28 _ [.ref (h + 3), .ref h] [.inr (4, [.null, .ref (h + 1), .ref (h + 2), .null, .null, .null, .null, .int 0, .int 0, .int 0, .int 0, .int 0]), .inl (ev.2.2 100, 1024, .inl (fun _ => 0)), .inl (ev.2.2 100, 1024, .inl (fun _ => 0)), .inl (ev.2.2 100, 1024, .inl (fun _ => 0))] 3 3072
  refine c_put (i := 18) (ci := 4) (j := 0) (k := 3) (ty := tyG 4 3) B (by decide +kernel) rfl (by decide) (by decide) rfl (lwG_at 145 (by decide +kernel)) (tyG_ok 4 (by decide) 3 (by decide)) rfl rfl (Nat.le_of_ble_eq_true rfl) ?_
  change CW _ _ _ _ _ _ _ _ _ _ _ _ _ _ 31 _ [] [.inr (4, [.null, .ref (h + 1), .ref (h + 2), .ref (h + 3), .null, .null, .null, .int 0, .int 0, .int 0, .int 0, .int 0]), .inl (ev.2.2 100, 1024, .inl (fun _ => 0)), .inl (ev.2.2 100, 1024, .inl (fun _ => 0)), .inl (ev.2.2 100, 1024, .inl (fun _ => 0))] 3 3072
  refine c_ald (n := 0) 0 B (by decide +kernel) rfl ?_
  refine c_si (v := 1024) (n := 1024) B (by decide +kernel) rfl ?_
  refine c_newa (N := 1024) B (by decide +kernel) (Or.inl ⟨rfl, rfl, rfl⟩) rfl (by decide) (by decide) (by decide) rfl ?_
  change CW _ _ _ _ _ _ _ _ _ _ _ _ _ _ 37 _ [.ref (h + 4), .ref h] [.inr (4, [.null, .ref (h + 1), .ref (h + 2), .ref (h + 3), .null, .null, .null, .int 0, .int 0, .int 0, .int 0, .int 0]), .inl (ev.2.2 100, 1024, .inl (fun _ => 0)), .inl (ev.2.2 100, 1024, .inl (fun _ => 0)), .inl (ev.2.2 100, 1024, .inl (fun _ => 0)), .inl (ev.2.2 100, 1024, .inl (fun _ => 0))] 4 4096
  refine c_put (i := 21) (ci := 4) (j := 0) (k := 4) (ty := tyG 4 4) B (by decide +kernel) rfl (by decide) (by decide) rfl (lwG_at 146 (by decide +kernel)) (tyG_ok 4 (by decide) 4 (by decide)) rfl rfl (Nat.le_of_ble_eq_true rfl) ?_
  change CW _ _ _ _ _ _ _ _ _ _ _ _ _ _ 40 _ [] [.inr (4, [.null, .ref (h + 1), .ref (h + 2), .ref (h + 3), .ref (h + 4), .null, .null, .int 0, .int 0, .int 0, .int 0, .int 0]), .inl (ev.2.2 100, 1024, .inl (fun _ => 0)), .inl (ev.2.2 100, 1024, .inl (fun _ => 0)), .inl (ev.2.2 100, 1024, .inl (fun _ => 0)), .inl (ev.2.2 100, 1024, .inl (fun _ => 0))] 4 4096
  refine c_ald (n := 0) 0 B (by decide +kernel) rfl ?_
  refine c_si (v := 1024) (n := 1024) B (by decide +kernel) rfl ?_
  refine c_newa (N := 1024) B (by decide +kernel) (Or.inl ⟨rfl, rfl, rfl⟩) rfl (by decide) (by decide) (by decide) rfl ?_
  change CW _ _ _ _ _ _ _ _ _ _ _ _ _ _ 46 _ [.ref (h + 5), .ref h] [.inr (4, [.null, .ref (h + 1), .ref (h + 2), .ref (h + 3), .ref (h + 4), .null, .null, .int 0, .int 0, .int 0, .int 0, .int 0]), .inl (ev.2.2 100, 1024, .inl (fun _ => 0)), .inl (ev.2.2 100, 1024, .inl (fun _ => 0)), .inl (ev.2.2 100, 1024, .inl (fun _ => 0)), .inl (ev.2.2 100, 1024, .inl (fun _ => 0)), .inl (ev.2.2 100, 1024, .inl (fun _ => 0))] 5 5120
  refine c_put (i := 24) (ci := 4) (j := 0) (k := 5) (ty := tyG 4 5) B (by decide +kernel) rfl (by decide) (by decide) rfl (lwG_at 147 (by decide +kernel)) (tyG_ok 4 (by decide) 5 (by decide)) rfl rfl (Nat.le_of_ble_eq_true rfl) ?_
  change CW _ _ _ _ _ _ _ _ _ _ _ _ _ _ 49 _ [] [.inr (4, [.null, .ref (h + 1), .ref (h + 2), .ref (h + 3), .ref (h + 4), .ref (h + 5), .null, .int 0, .int 0, .int 0, .int 0, .int 0]), .inl (ev.2.2 100, 1024, .inl (fun _ => 0)), .inl (ev.2.2 100, 1024, .inl (fun _ => 0)), .inl (ev.2.2 100, 1024, .inl (fun _ => 0)), .inl (ev.2.2 100, 1024, .inl (fun _ => 0)), .inl (ev.2.2 100, 1024, .inl (fun _ => 0))] 5 5120
  refine c_ald (n := 0) 0 B (by decide +kernel) rfl ?_
  refine c_bi (v := 10) (n := 10) B (by decide +kernel) rfl ?_
  refine c_newa (N := 10) B (by decide +kernel) (Or.inl ⟨rfl, rfl, rfl⟩) rfl (by decide) (by decide) (by decide) rfl ?_
  change CW _ _ _ _ _ _ _ _ _ _ _ _ _ _ 54 _ [.ref (h + 6), .ref h] [.inr (4, [.null, .ref (h + 1), .ref (h + 2), .ref (h + 3), .ref (h + 4), .ref (h + 5), .null, .int 0, .int 0, .int 0, .int 0, .int 0]), .inl (ev.2.2 100, 1024, .inl (fun _ => 0)), .inl (ev.2.2 100, 1024, .inl (fun _ => 0)), .inl (ev.2.2 100, 1024, .inl (fun _ => 0)), .inl (ev.2.2 100, 1024, .inl (fun _ => 0)), .inl (ev.2.2 100, 1024, .inl (fun _ => 0)), .inl (ev.2.2 100, 10, .inl (fun _ => 0))] 6 5130
  refine c_put (i := 27) (ci := 4) (j := 0) (k := 6) (ty := tyG 4 6) B (by decide +kernel) rfl (by decide) (by decide) rfl (lwG_at 148 (by decide +kernel)) (tyG_ok 4 (by decide) 6 (by decide)) rfl rfl (Nat.le_of_ble_eq_true rfl) ?_
  change CW _ _ _ _ _ _ _ _ _ _ _ _ _ _ 57 _ [] [.inr (4, [.null, .ref (h + 1), .ref (h + 2), .ref (h + 3), .ref (h + 4), .ref (h + 5), .ref (h + 6), .int 0, .int 0, .int 0, .int 0, .int 0]), .inl (ev.2.2 100, 1024, .inl (fun _ => 0)), .inl (ev.2.2 100, 1024, .inl (fun _ => 0)), .inl (ev.2.2 100, 1024, .inl (fun _ => 0)), .inl (ev.2.2 100, 1024, .inl (fun _ => 0)), .inl (ev.2.2 100, 1024, .inl (fun _ => 0)), .inl (ev.2.2 100, 10, .inl (fun _ => 0))] 6 5130
  refine c_ald (n := 0) 0 B (by decide +kernel) rfl ?_
  refine c_ic (v := 0) (n := 0) B (by decide +kernel) rfl ?_
  refine c_put (i := 30) (ci := 4) (j := 0) (k := 7) (ty := tyG 4 7) B (by decide +kernel) rfl (by decide) (by decide) rfl (lwG_at 149 (by decide +kernel)) (tyG_ok 4 (by decide) 7 (by decide)) rfl rfl (Nat.le_of_ble_eq_true rfl) ?_
  change CW _ _ _ _ _ _ _ _ _ _ _ _ _ _ 62 _ [] [.inr (4, [.null, .ref (h + 1), .ref (h + 2), .ref (h + 3), .ref (h + 4), .ref (h + 5), .ref (h + 6), .int 0, .int 0, .int 0, .int 0, .int 0]), .inl (ev.2.2 100, 1024, .inl (fun _ => 0)), .inl (ev.2.2 100, 1024, .inl (fun _ => 0)), .inl (ev.2.2 100, 1024, .inl (fun _ => 0)), .inl (ev.2.2 100, 1024, .inl (fun _ => 0)), .inl (ev.2.2 100, 1024, .inl (fun _ => 0)), .inl (ev.2.2 100, 10, .inl (fun _ => 0))] 6 5130
  refine c_ald (n := 0) 0 B (by decide +kernel) rfl ?_
  refine c_ic (v := 0) (n := 0) B (by decide +kernel) rfl ?_
  refine c_put (i := 34) (ci := 4) (j := 0) (k := 8) (ty := tyG 4 8) B (by decide +kernel) rfl (by decide) (by decide) rfl (lwG_at 150 (by decide +kernel)) (tyG_ok 4 (by decide) 8 (by decide)) rfl rfl (Nat.le_of_ble_eq_true rfl) ?_
  change CW _ _ _ _ _ _ _ _ _ _ _ _ _ _ 67 _ [] [.inr (4, [.null, .ref (h + 1), .ref (h + 2), .ref (h + 3), .ref (h + 4), .ref (h + 5), .ref (h + 6), .int 0, .int 0, .int 0, .int 0, .int 0]), .inl (ev.2.2 100, 1024, .inl (fun _ => 0)), .inl (ev.2.2 100, 1024, .inl (fun _ => 0)), .inl (ev.2.2 100, 1024, .inl (fun _ => 0)), .inl (ev.2.2 100, 1024, .inl (fun _ => 0)), .inl (ev.2.2 100, 1024, .inl (fun _ => 0)), .inl (ev.2.2 100, 10, .inl (fun _ => 0))] 6 5130
  refine c_ald (n := 0) 0 B (by decide +kernel) rfl ?_
  refine c_ic (v := 0) (n := 0) B (by decide +kernel) rfl ?_
  refine c_put (i := 37) (ci := 4) (j := 0) (k := 9) (ty := tyG 4 9) B (by decide +kernel) rfl (by decide) (by decide) rfl (lwG_at 151 (by decide +kernel)) (tyG_ok 4 (by decide) 9 (by decide)) rfl rfl (Nat.le_of_ble_eq_true rfl) ?_
  change CW _ _ _ _ _ _ _ _ _ _ _ _ _ _ 72 _ [] [.inr (4, [.null, .ref (h + 1), .ref (h + 2), .ref (h + 3), .ref (h + 4), .ref (h + 5), .ref (h + 6), .int 0, .int 0, .int 0, .int 0, .int 0]), .inl (ev.2.2 100, 1024, .inl (fun _ => 0)), .inl (ev.2.2 100, 1024, .inl (fun _ => 0)), .inl (ev.2.2 100, 1024, .inl (fun _ => 0)), .inl (ev.2.2 100, 1024, .inl (fun _ => 0)), .inl (ev.2.2 100, 1024, .inl (fun _ => 0)), .inl (ev.2.2 100, 10, .inl (fun _ => 0))] 6 5130
  refine c_ald (n := 0) 0 B (by decide +kernel) rfl ?_
  refine c_ic (v := 0) (n := 0) B (by decide +kernel) rfl ?_
  refine c_put (i := 40) (ci := 4) (j := 0) (k := 10) (ty := tyG 4 10) B (by decide +kernel) rfl (by decide) (by decide) rfl (lwG_at 152 (by decide +kernel)) (tyG_ok 4 (by decide) 10 (by decide)) rfl rfl (Nat.le_of_ble_eq_true rfl) ?_
  change CW _ _ _ _ _ _ _ _ _ _ _ _ _ _ 77 _ [] [.inr (4, [.null, .ref (h + 1), .ref (h + 2), .ref (h + 3), .ref (h + 4), .ref (h + 5), .ref (h + 6), .int 0, .int 0, .int 0, .int 0, .int 0]), .inl (ev.2.2 100, 1024, .inl (fun _ => 0)), .inl (ev.2.2 100, 1024, .inl (fun _ => 0)), .inl (ev.2.2 100, 1024, .inl (fun _ => 0)), .inl (ev.2.2 100, 1024, .inl (fun _ => 0)), .inl (ev.2.2 100, 1024, .inl (fun _ => 0)), .inl (ev.2.2 100, 10, .inl (fun _ => 0))] 6 5130
  refine c_ald (n := 0) 0 B (by decide +kernel) rfl ?_
  refine c_ic (v := 0) (n := 0) B (by decide +kernel) rfl ?_
  refine c_put (i := 43) (ci := 4) (j := 0) (k := 11) (ty := tyG 4 11) B (by decide +kernel) rfl (by decide) (by decide) rfl (lwG_at 153 (by decide +kernel)) (tyG_ok 4 (by decide) 11 (by decide)) rfl rfl (Nat.le_of_ble_eq_true rfl) ?_
  change CW _ _ _ _ _ _ _ _ _ _ _ _ _ _ 82 _ [] [.inr (4, [.null, .ref (h + 1), .ref (h + 2), .ref (h + 3), .ref (h + 4), .ref (h + 5), .ref (h + 6), .int 0, .int 0, .int 0, .int 0, .int 0]), .inl (ev.2.2 100, 1024, .inl (fun _ => 0)), .inl (ev.2.2 100, 1024, .inl (fun _ => 0)), .inl (ev.2.2 100, 1024, .inl (fun _ => 0)), .inl (ev.2.2 100, 1024, .inl (fun _ => 0)), .inl (ev.2.2 100, 1024, .inl (fun _ => 0)), .inl (ev.2.2 100, 10, .inl (fun _ => 0))] 6 5130
  refine c_ald (n := 0) 0 B (by decide +kernel) rfl ?_
  refine c_ald (n := 1) 1 B (by decide +kernel) rfl ?_
  refine c_put (i := 46) (ci := 4) (j := 0) (k := 0) (ty := tyG 4 0) B (by decide +kernel) rfl (by decide) (by decide) rfl (lwG_at 142 (by decide +kernel)) (tyG_ok 4 (by decide) 0 (by decide)) rfl rfl (Nat.le_of_ble_eq_true rfl) ?_
  change CW _ _ _ _ _ _ _ _ _ _ _ _ _ _ 87 _ [] [.inr (4, [.ref x1, .ref (h + 1), .ref (h + 2), .ref (h + 3), .ref (h + 4), .ref (h + 5), .ref (h + 6), .int 0, .int 0, .int 0, .int 0, .int 0]), .inl (ev.2.2 100, 1024, .inl (fun _ => 0)), .inl (ev.2.2 100, 1024, .inl (fun _ => 0)), .inl (ev.2.2 100, 1024, .inl (fun _ => 0)), .inl (ev.2.2 100, 1024, .inl (fun _ => 0)), .inl (ev.2.2 100, 1024, .inl (fun _ => 0)), .inl (ev.2.2 100, 10, .inl (fun _ => 0))] 6 5130
  exact c_ret B (by decide +kernel) rfl
def L_Chest (ev : EV) (h : Nat) : List va_E := [.inr (0, [.ref (h + 1), .ref (h + 12), .ref (h + 13), .int 0, .int 0, .int 0, .int 0, .int 1]), rfE 10 102 ev (fun j => some (h + 2 + j)), .inl (ev.2.2 100, 10, .inl (fun _ => 0)), .inl (ev.2.2 100, 10, .inl (fun _ => 0)), .inl (ev.2.2 100, 10, .inl (fun _ => 0)), .inl (ev.2.2 100, 10, .inl (fun _ => 0)), .inl (ev.2.2 100, 10, .inl (fun _ => 0)), .inl (ev.2.2 100, 10, .inl (fun _ => 0)), .inl (ev.2.2 100, 10, .inl (fun _ => 0)), .inl (ev.2.2 100, 10, .inl (fun _ => 0)), .inl (ev.2.2 100, 10, .inl (fun _ => 0)), .inl (ev.2.2 100, 10, .inl (fun _ => 0)), .inl (ev.2.2 100, 5, .inl (va_cpy (cst 204) (fun _ => 0) 0 0 5)), .inl (ev.2.2 100, 10, .inl (fun _ => -1))]
theorem ct_Chest (l : Launch) (h0h : h0 ≤ h) : CtM l ev ⟨"ChainedChest$Chest", "<init>", "()V"⟩ prog_2_method_1_code 1 [] h h0 fr 1 [.inr (0, zeroL 0)] (L_Chest ev h) 13 125 := by
  refine ct_of (by decide) rfl h0h (Nat.le_of_ble_eq_true rfl) ?_
  intro p e s m args below meth c B
  change CW _ _ _ _ _ _ _ _ _ _ _ _ _ _ 0 _ [] [.inr (0, [.null, .null, .null, .int 0, .int 0, .int 0, .int 0, .int 0])] 0 0
  refine c_ald (n := 0) 0 B (by decide +kernel) rfl ?_
  refine c_obj (i := 1) B (by decide +kernel) ⟨(lwG_at 89 (by decide +kernel)), (lwG_at 82 (by decide +kernel)), lwG_at 83 (by decide +kernel)⟩ (by decide) ?_
  change CW _ _ _ _ _ _ _ _ _ _ _ _ _ _ 4 _ [] [.inr (0, [.null, .null, .null, .int 0, .int 0, .int 0, .int 0, .int 0])] 0 0
  refine c_ald (n := 0) 0 B (by decide +kernel) rfl ?_
  refine c_bi (v := 10) (n := 10) B (by decide +kernel) rfl ?_
  refine c_bi (v := 10) (n := 10) B (by decide +kernel) rfl ?_
  refine c_multi (i := 9) B (by decide +kernel) (lwG_at 90 (by decide +kernel)) (by decide) (by decide) ?_
  change CW _ _ _ _ _ _ _ _ _ _ _ _ _ _ 13 _ [.ref (h + 1), .ref h] [.inr (0, [.null, .null, .null, .int 0, .int 0, .int 0, .int 0, .int 0]), rfE 10 102 ev (fun j => some (h + 2 + j)), .inl (ev.2.2 100, 10, .inl (fun _ => 0)), .inl (ev.2.2 100, 10, .inl (fun _ => 0)), .inl (ev.2.2 100, 10, .inl (fun _ => 0)), .inl (ev.2.2 100, 10, .inl (fun _ => 0)), .inl (ev.2.2 100, 10, .inl (fun _ => 0)), .inl (ev.2.2 100, 10, .inl (fun _ => 0)), .inl (ev.2.2 100, 10, .inl (fun _ => 0)), .inl (ev.2.2 100, 10, .inl (fun _ => 0)), .inl (ev.2.2 100, 10, .inl (fun _ => 0)), .inl (ev.2.2 100, 10, .inl (fun _ => 0))] 11 110
  refine c_put (i := 11) (ci := 0) (j := 0) (k := 0) (ty := tyG 0 0) B (by decide +kernel) rfl (by decide) (by decide) rfl (lwG_at 100 (by decide +kernel)) (tyG_ok 0 (by decide) 0 (by decide)) rfl rfl (Nat.le_of_ble_eq_true rfl) ?_
  change CW _ _ _ _ _ _ _ _ _ _ _ _ _ _ 16 _ [] [.inr (0, [.ref (h + 1), .null, .null, .int 0, .int 0, .int 0, .int 0, .int 0]), rfE 10 102 ev (fun j => some (h + 2 + j)), .inl (ev.2.2 100, 10, .inl (fun _ => 0)), .inl (ev.2.2 100, 10, .inl (fun _ => 0)), .inl (ev.2.2 100, 10, .inl (fun _ => 0)), .inl (ev.2.2 100, 10, .inl (fun _ => 0)), .inl (ev.2.2 100, 10, .inl (fun _ => 0)), .inl (ev.2.2 100, 10, .inl (fun _ => 0)), .inl (ev.2.2 100, 10, .inl (fun _ => 0)), .inl (ev.2.2 100, 10, .inl (fun _ => 0)), .inl (ev.2.2 100, 10, .inl (fun _ => 0)), .inl (ev.2.2 100, 10, .inl (fun _ => 0))] 11 110
  refine c_ald (n := 0) 0 B (by decide +kernel) rfl ?_
  refine c_ic (v := 5) (n := 5) B (by decide +kernel) rfl ?_
  refine c_newa (N := 5) B (by decide +kernel) (Or.inl ⟨rfl, rfl, rfl⟩) rfl (by decide) (by decide) (by decide) rfl ?_
  change CW _ _ _ _ _ _ _ _ _ _ _ _ _ _ 20 _ [.ref (h + 12), .ref h] [.inr (0, [.ref (h + 1), .null, .null, .int 0, .int 0, .int 0, .int 0, .int 0]), rfE 10 102 ev (fun j => some (h + 2 + j)), .inl (ev.2.2 100, 10, .inl (fun _ => 0)), .inl (ev.2.2 100, 10, .inl (fun _ => 0)), .inl (ev.2.2 100, 10, .inl (fun _ => 0)), .inl (ev.2.2 100, 10, .inl (fun _ => 0)), .inl (ev.2.2 100, 10, .inl (fun _ => 0)), .inl (ev.2.2 100, 10, .inl (fun _ => 0)), .inl (ev.2.2 100, 10, .inl (fun _ => 0)), .inl (ev.2.2 100, 10, .inl (fun _ => 0)), .inl (ev.2.2 100, 10, .inl (fun _ => 0)), .inl (ev.2.2 100, 10, .inl (fun _ => 0)), .inl (ev.2.2 100, 5, .inl (fun _ => 0))] 12 115
  refine c_put (i := 14) (ci := 0) (j := 0) (k := 1) (ty := tyG 0 1) B (by decide +kernel) rfl (by decide) (by decide) rfl (lwG_at 101 (by decide +kernel)) (tyG_ok 0 (by decide) 1 (by decide)) rfl rfl (Nat.le_of_ble_eq_true rfl) ?_
  change CW _ _ _ _ _ _ _ _ _ _ _ _ _ _ 23 _ [] [.inr (0, [.ref (h + 1), .ref (h + 12), .null, .int 0, .int 0, .int 0, .int 0, .int 0]), rfE 10 102 ev (fun j => some (h + 2 + j)), .inl (ev.2.2 100, 10, .inl (fun _ => 0)), .inl (ev.2.2 100, 10, .inl (fun _ => 0)), .inl (ev.2.2 100, 10, .inl (fun _ => 0)), .inl (ev.2.2 100, 10, .inl (fun _ => 0)), .inl (ev.2.2 100, 10, .inl (fun _ => 0)), .inl (ev.2.2 100, 10, .inl (fun _ => 0)), .inl (ev.2.2 100, 10, .inl (fun _ => 0)), .inl (ev.2.2 100, 10, .inl (fun _ => 0)), .inl (ev.2.2 100, 10, .inl (fun _ => 0)), .inl (ev.2.2 100, 10, .inl (fun _ => 0)), .inl (ev.2.2 100, 5, .inl (fun _ => 0))] 12 115
  refine c_ald (n := 0) 0 B (by decide +kernel) rfl ?_
  refine c_bi (v := 10) (n := 10) B (by decide +kernel) rfl ?_
  refine c_newa (N := 10) B (by decide +kernel) (Or.inl ⟨rfl, rfl, rfl⟩) rfl (by decide) (by decide) (by decide) rfl ?_
  change CW _ _ _ _ _ _ _ _ _ _ _ _ _ _ 28 _ [.ref (h + 13), .ref h] [.inr (0, [.ref (h + 1), .ref (h + 12), .null, .int 0, .int 0, .int 0, .int 0, .int 0]), rfE 10 102 ev (fun j => some (h + 2 + j)), .inl (ev.2.2 100, 10, .inl (fun _ => 0)), .inl (ev.2.2 100, 10, .inl (fun _ => 0)), .inl (ev.2.2 100, 10, .inl (fun _ => 0)), .inl (ev.2.2 100, 10, .inl (fun _ => 0)), .inl (ev.2.2 100, 10, .inl (fun _ => 0)), .inl (ev.2.2 100, 10, .inl (fun _ => 0)), .inl (ev.2.2 100, 10, .inl (fun _ => 0)), .inl (ev.2.2 100, 10, .inl (fun _ => 0)), .inl (ev.2.2 100, 10, .inl (fun _ => 0)), .inl (ev.2.2 100, 10, .inl (fun _ => 0)), .inl (ev.2.2 100, 5, .inl (fun _ => 0)), .inl (ev.2.2 100, 10, .inl (fun _ => 0))] 13 125
  refine c_put (i := 18) (ci := 0) (j := 0) (k := 2) (ty := tyG 0 2) B (by decide +kernel) rfl (by decide) (by decide) rfl (lwG_at 102 (by decide +kernel)) (tyG_ok 0 (by decide) 2 (by decide)) rfl rfl (Nat.le_of_ble_eq_true rfl) ?_
  change CW _ _ _ _ _ _ _ _ _ _ _ _ _ _ 31 _ [] [.inr (0, [.ref (h + 1), .ref (h + 12), .ref (h + 13), .int 0, .int 0, .int 0, .int 0, .int 0]), rfE 10 102 ev (fun j => some (h + 2 + j)), .inl (ev.2.2 100, 10, .inl (fun _ => 0)), .inl (ev.2.2 100, 10, .inl (fun _ => 0)), .inl (ev.2.2 100, 10, .inl (fun _ => 0)), .inl (ev.2.2 100, 10, .inl (fun _ => 0)), .inl (ev.2.2 100, 10, .inl (fun _ => 0)), .inl (ev.2.2 100, 10, .inl (fun _ => 0)), .inl (ev.2.2 100, 10, .inl (fun _ => 0)), .inl (ev.2.2 100, 10, .inl (fun _ => 0)), .inl (ev.2.2 100, 10, .inl (fun _ => 0)), .inl (ev.2.2 100, 10, .inl (fun _ => 0)), .inl (ev.2.2 100, 5, .inl (fun _ => 0)), .inl (ev.2.2 100, 10, .inl (fun _ => 0))] 13 125
  refine c_ald (n := 0) 0 B (by decide +kernel) rfl ?_
  refine c_ic (v := 0) (n := 0) B (by decide +kernel) rfl ?_
  refine c_put (i := 21) (ci := 0) (j := 0) (k := 3) (ty := tyG 0 3) B (by decide +kernel) rfl (by decide) (by decide) rfl (lwG_at 103 (by decide +kernel)) (tyG_ok 0 (by decide) 3 (by decide)) rfl rfl (Nat.le_of_ble_eq_true rfl) ?_
  change CW _ _ _ _ _ _ _ _ _ _ _ _ _ _ 36 _ [] [.inr (0, [.ref (h + 1), .ref (h + 12), .ref (h + 13), .int 0, .int 0, .int 0, .int 0, .int 0]), rfE 10 102 ev (fun j => some (h + 2 + j)), .inl (ev.2.2 100, 10, .inl (fun _ => 0)), .inl (ev.2.2 100, 10, .inl (fun _ => 0)), .inl (ev.2.2 100, 10, .inl (fun _ => 0)), .inl (ev.2.2 100, 10, .inl (fun _ => 0)), .inl (ev.2.2 100, 10, .inl (fun _ => 0)), .inl (ev.2.2 100, 10, .inl (fun _ => 0)), .inl (ev.2.2 100, 10, .inl (fun _ => 0)), .inl (ev.2.2 100, 10, .inl (fun _ => 0)), .inl (ev.2.2 100, 10, .inl (fun _ => 0)), .inl (ev.2.2 100, 10, .inl (fun _ => 0)), .inl (ev.2.2 100, 5, .inl (fun _ => 0)), .inl (ev.2.2 100, 10, .inl (fun _ => 0))] 13 125
  refine c_ald (n := 0) 0 B (by decide +kernel) rfl ?_
  refine c_ic (v := 0) (n := 0) B (by decide +kernel) rfl ?_
  refine c_put (i := 25) (ci := 0) (j := 0) (k := 4) (ty := tyG 0 4) B (by decide +kernel) rfl (by decide) (by decide) rfl (lwG_at 107 (by decide +kernel)) (tyG_ok 0 (by decide) 4 (by decide)) rfl rfl (Nat.le_of_ble_eq_true rfl) ?_
  change CW _ _ _ _ _ _ _ _ _ _ _ _ _ _ 41 _ [] [.inr (0, [.ref (h + 1), .ref (h + 12), .ref (h + 13), .int 0, .int 0, .int 0, .int 0, .int 0]), rfE 10 102 ev (fun j => some (h + 2 + j)), .inl (ev.2.2 100, 10, .inl (fun _ => 0)), .inl (ev.2.2 100, 10, .inl (fun _ => 0)), .inl (ev.2.2 100, 10, .inl (fun _ => 0)), .inl (ev.2.2 100, 10, .inl (fun _ => 0)), .inl (ev.2.2 100, 10, .inl (fun _ => 0)), .inl (ev.2.2 100, 10, .inl (fun _ => 0)), .inl (ev.2.2 100, 10, .inl (fun _ => 0)), .inl (ev.2.2 100, 10, .inl (fun _ => 0)), .inl (ev.2.2 100, 10, .inl (fun _ => 0)), .inl (ev.2.2 100, 10, .inl (fun _ => 0)), .inl (ev.2.2 100, 5, .inl (fun _ => 0)), .inl (ev.2.2 100, 10, .inl (fun _ => 0))] 13 125
  refine c_ald (n := 0) 0 B (by decide +kernel) rfl ?_
  refine c_ic (v := 0) (n := 0) B (by decide +kernel) rfl ?_
  refine c_put (i := 28) (ci := 0) (j := 0) (k := 5) (ty := tyG 0 5) B (by decide +kernel) rfl (by decide) (by decide) rfl (lwG_at 111 (by decide +kernel)) (tyG_ok 0 (by decide) 5 (by decide)) rfl rfl (Nat.le_of_ble_eq_true rfl) ?_
  change CW _ _ _ _ _ _ _ _ _ _ _ _ _ _ 46 _ [] [.inr (0, [.ref (h + 1), .ref (h + 12), .ref (h + 13), .int 0, .int 0, .int 0, .int 0, .int 0]), rfE 10 102 ev (fun j => some (h + 2 + j)), .inl (ev.2.2 100, 10, .inl (fun _ => 0)), .inl (ev.2.2 100, 10, .inl (fun _ => 0)), .inl (ev.2.2 100, 10, .inl (fun _ => 0)), .inl (ev.2.2 100, 10, .inl (fun _ => 0)), .inl (ev.2.2 100, 10, .inl (fun _ => 0)), .inl (ev.2.2 100, 10, .inl (fun _ => 0)), .inl (ev.2.2 100, 10, .inl (fun _ => 0)), .inl (ev.2.2 100, 10, .inl (fun _ => 0)), .inl (ev.2.2 100, 10, .inl (fun _ => 0)), .inl (ev.2.2 100, 10, .inl (fun _ => 0)), .inl (ev.2.2 100, 5, .inl (fun _ => 0)), .inl (ev.2.2 100, 10, .inl (fun _ => 0))] 13 125
  refine c_ald (n := 0) 0 B (by decide +kernel) rfl ?_
  refine c_ic (v := 0) (n := 0) B (by decide +kernel) rfl ?_
  refine c_put (i := 31) (ci := 0) (j := 0) (k := 6) (ty := tyG 0 6) B (by decide +kernel) rfl (by decide) (by decide) rfl (lwG_at 114 (by decide +kernel)) (tyG_ok 0 (by decide) 6 (by decide)) rfl rfl (Nat.le_of_ble_eq_true rfl) ?_
  change CW _ _ _ _ _ _ _ _ _ _ _ _ _ _ 51 _ [] [.inr (0, [.ref (h + 1), .ref (h + 12), .ref (h + 13), .int 0, .int 0, .int 0, .int 0, .int 0]), rfE 10 102 ev (fun j => some (h + 2 + j)), .inl (ev.2.2 100, 10, .inl (fun _ => 0)), .inl (ev.2.2 100, 10, .inl (fun _ => 0)), .inl (ev.2.2 100, 10, .inl (fun _ => 0)), .inl (ev.2.2 100, 10, .inl (fun _ => 0)), .inl (ev.2.2 100, 10, .inl (fun _ => 0)), .inl (ev.2.2 100, 10, .inl (fun _ => 0)), .inl (ev.2.2 100, 10, .inl (fun _ => 0)), .inl (ev.2.2 100, 10, .inl (fun _ => 0)), .inl (ev.2.2 100, 10, .inl (fun _ => 0)), .inl (ev.2.2 100, 10, .inl (fun _ => 0)), .inl (ev.2.2 100, 5, .inl (fun _ => 0)), .inl (ev.2.2 100, 10, .inl (fun _ => 0))] 13 125
  refine c_ald (n := 0) 0 B (by decide +kernel) rfl ?_
  refine c_ic (v := 1) (n := 1) B (by decide +kernel) rfl ?_
  refine c_put (i := 34) (ci := 0) (j := 0) (k := 7) (ty := tyG 0 7) B (by decide +kernel) rfl (by decide) (by decide) rfl (lwG_at 116 (by decide +kernel)) (tyG_ok 0 (by decide) 7 (by decide)) rfl rfl (Nat.le_of_ble_eq_true rfl) ?_
  change CW _ _ _ _ _ _ _ _ _ _ _ _ _ _ 56 _ [] [.inr (0, [.ref (h + 1), .ref (h + 12), .ref (h + 13), .int 0, .int 0, .int 0, .int 0, .int 1]), rfE 10 102 ev (fun j => some (h + 2 + j)), .inl (ev.2.2 100, 10, .inl (fun _ => 0)), .inl (ev.2.2 100, 10, .inl (fun _ => 0)), .inl (ev.2.2 100, 10, .inl (fun _ => 0)), .inl (ev.2.2 100, 10, .inl (fun _ => 0)), .inl (ev.2.2 100, 10, .inl (fun _ => 0)), .inl (ev.2.2 100, 10, .inl (fun _ => 0)), .inl (ev.2.2 100, 10, .inl (fun _ => 0)), .inl (ev.2.2 100, 10, .inl (fun _ => 0)), .inl (ev.2.2 100, 10, .inl (fun _ => 0)), .inl (ev.2.2 100, 10, .inl (fun _ => 0)), .inl (ev.2.2 100, 5, .inl (fun _ => 0)), .inl (ev.2.2 100, 10, .inl (fun _ => 0))] 13 125
  refine c_gsF (i := 37) B (by decide +kernel) (lwG_at 92 (by decide +kernel)) ?_
  refine c_ic (v := 0) (n := 0) B (by decide +kernel) rfl ?_
  refine c_ald (n := 0) 0 B (by decide +kernel) rfl ?_
  refine c_get (i := 14) (ci := 0) (j := 0) (k := 1) (v := .ref (h + 12)) B (by decide +kernel) rfl (by decide) (by decide) (lwG_at 101 (by decide +kernel)) rfl ?_
  refine c_ic (v := 0) (n := 0) B (by decide +kernel) rfl ?_
  refine c_ic (v := 5) (n := 5) B (by decide +kernel) rfl ?_
  refine c_acopy (i := 40) (j := 12) B (by decide +kernel) ⟨(lwG_at 94 (by decide +kernel)), (lwG_at 96 (by decide +kernel)), (lwG_at 95 (by decide +kernel)), (lwG_at 63 (by decide +kernel))⟩ rfl (by decide) ?_
  change CW _ _ _ _ _ _ _ _ _ _ _ _ _ _ 69 _ [] [.inr (0, [.ref (h + 1), .ref (h + 12), .ref (h + 13), .int 0, .int 0, .int 0, .int 0, .int 1]), rfE 10 102 ev (fun j => some (h + 2 + j)), .inl (ev.2.2 100, 10, .inl (fun _ => 0)), .inl (ev.2.2 100, 10, .inl (fun _ => 0)), .inl (ev.2.2 100, 10, .inl (fun _ => 0)), .inl (ev.2.2 100, 10, .inl (fun _ => 0)), .inl (ev.2.2 100, 10, .inl (fun _ => 0)), .inl (ev.2.2 100, 10, .inl (fun _ => 0)), .inl (ev.2.2 100, 10, .inl (fun _ => 0)), .inl (ev.2.2 100, 10, .inl (fun _ => 0)), .inl (ev.2.2 100, 10, .inl (fun _ => 0)), .inl (ev.2.2 100, 10, .inl (fun _ => 0)), .inl (ev.2.2 100, 5, .inl (va_cpy (cst 204) (fun _ => 0) 0 0 5)), .inl (ev.2.2 100, 10, .inl (fun _ => 0))] 13 125
  refine c_ald (n := 0) 0 B (by decide +kernel) rfl ?_
  refine c_get (i := 18) (ci := 0) (j := 0) (k := 2) (v := .ref (h + 13)) B (by decide +kernel) rfl (by decide) (by decide) (lwG_at 102 (by decide +kernel)) rfl ?_
  refine c_ic (v := -1) (n := -1) B (by decide +kernel) rfl ?_
  refine c_fill (i := 46) (j := 13) (N := 10) B (by decide +kernel) (lwG_at 97 (by decide +kernel)) rfl (by decide) (by decide) ?_ (by decide)
  change CW _ _ _ _ _ _ _ _ _ _ _ _ _ _ 77 _ [] [.inr (0, [.ref (h + 1), .ref (h + 12), .ref (h + 13), .int 0, .int 0, .int 0, .int 0, .int 1]), rfE 10 102 ev (fun j => some (h + 2 + j)), .inl (ev.2.2 100, 10, .inl (fun _ => 0)), .inl (ev.2.2 100, 10, .inl (fun _ => 0)), .inl (ev.2.2 100, 10, .inl (fun _ => 0)), .inl (ev.2.2 100, 10, .inl (fun _ => 0)), .inl (ev.2.2 100, 10, .inl (fun _ => 0)), .inl (ev.2.2 100, 10, .inl (fun _ => 0)), .inl (ev.2.2 100, 10, .inl (fun _ => 0)), .inl (ev.2.2 100, 10, .inl (fun _ => 0)), .inl (ev.2.2 100, 10, .inl (fun _ => 0)), .inl (ev.2.2 100, 10, .inl (fun _ => 0)), .inl (ev.2.2 100, 5, .inl (va_cpy (cst 204) (fun _ => 0) 0 0 5)), .inl (ev.2.2 100, 10, .inl (fun _ => -1))] 13 125
  exact c_ret B (by decide +kernel) rfl
end CT
