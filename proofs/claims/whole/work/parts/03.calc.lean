/-! the pure calculus: store, locals, instructions, weakest preconditions -/
abbrev RI : Type := Nat × Nat × Nat × Nat × Int32
abbrev BK : Type := Nat × List RI × RI × List (Int32 × Nat)
abbrev St2 : Type := (Nat → Nat → Int32) × (Nat → Nat → Int64)
abbrev KT : Type := List Value → List Value → St2 → Prop
abbrev PO : Type := Option Value → St2 → Prop
abbrev SPT : Type := Nat → List Value → St2 → PO → Prop
def upr {α : Type} (f : Nat → Nat → α) (k : Nat) (r : Nat → α) : Nat → Nat → α := fun k' => if k' = k then r else f k'
def updl (f : Nat → Int64) (k : Nat) (x : Int64) : Nat → Int64 := fun j => if j = k then x else f j
def si (σ : St2) (k j : Nat) (v : Int32) : St2 := (upr σ.1 k (upd (σ.1 k) j v), σ.2)
def sl (σ : St2) (k j : Nat) (v : Int64) : St2 := (σ.1, upr σ.2 k (updl (σ.2 k) j v))
def sr (σ : St2) (k : Nat) (r : Nat → Int32) : St2 := (upr σ.1 k r, σ.2)
abbrev Cst (k : Nat) (v : Int32) : RI := (0, k, 0, 0, v)
abbrev Ild (n : Nat) : RI := (1, n, 0, 0, 0)
abbrev Ald (n : Nat) : RI := (2, n, 0, 0, 0)
abbrev Lld (n : Nat) : RI := (3, n, 0, 0, 0)
abbrev Ist (n : Nat) : RI := (4, n, 0, 0, 0)
abbrev Ast (n : Nat) : RI := (5, n, 0, 0, 0)
abbrev Lst (n : Nat) : RI := (6, n, 0, 0, 0)
abbrev Inc (n : Nat) (v : Int32) : RI := (7, n, 0, 0, v)
abbrev Dup : RI := (8, 0, 0, 0, 0)
abbrev Pop : RI := (9, 0, 0, 0, 0)
abbrev Dup2 : RI := (10, 0, 0, 0, 0)
abbrev Iadd : RI := (11, 0, 0, 0, 0)
abbrev Isub : RI := (12, 0, 0, 0, 0)
abbrev Imul : RI := (13, 0, 0, 0, 0)
abbrev Idiv : RI := (14, 0, 0, 0, 0)
abbrev Irem : RI := (15, 0, 0, 0, 0)
abbrev Iand : RI := (16, 0, 0, 0, 0)
abbrev Ior : RI := (17, 0, 0, 0, 0)
abbrev Ixor : RI := (18, 0, 0, 0, 0)
abbrev Ishl : RI := (19, 0, 0, 0, 0)
abbrev Ishr : RI := (20, 0, 0, 0, 0)
abbrev Iushr : RI := (21, 0, 0, 0, 0)
abbrev Ladd : RI := (22, 0, 0, 0, 0)
abbrev Lsub : RI := (23, 0, 0, 0, 0)
abbrev Lmul : RI := (24, 0, 0, 0, 0)
abbrev Ldiv : RI := (25, 0, 0, 0, 0)
abbrev Lrem : RI := (26, 0, 0, 0, 0)
abbrev Lcmp : RI := (27, 0, 0, 0, 0)
abbrev I2l : RI := (28, 0, 0, 0, 0)
abbrev L2i : RI := (29, 0, 0, 0, 0)
abbrev I2b : RI := (30, 0, 0, 0, 0)
abbrev I2s : RI := (31, 0, 0, 0, 0)
abbrev I2c : RI := (32, 0, 0, 0, 0)
abbrev GfI (i c j : Nat) : RI := (33, i, c, j, 0)
abbrev GfL (i c j : Nat) : RI := (34, i, c, j, 0)
abbrev GfR (i c j : Nat) : RI := (35, i, c, j, 0)
abbrev PfI (i c j : Nat) : RI := (36, i, c, j, 0)
abbrev PfZ (i c j : Nat) : RI := (37, i, c, j, 0)
abbrev PfL (i c j : Nat) : RI := (38, i, c, j, 0)
abbrev Iald : RI := (39, 0, 0, 0, 0)
abbrev Iast : RI := (40, 0, 0, 0, 0)
abbrev Cald : RI := (41, 0, 0, 0, 0)
abbrev Aald : RI := (42, 0, 0, 0, 0)
abbrev Alen : RI := (43, 0, 0, 0, 0)
abbrev IaldS : RI := (44, 0, 0, 0, 0)
abbrev GsA (i k : Nat) : RI := (45, i, k, 0, 0)
abbrev GsI (i : Nat) : RI := (46, i, 0, 0, 0)
abbrev GsQ (i : Nat) : RI := (47, i, 0, 0, 0)
abbrev LdS (i k : Nat) : RI := (48, i, k, 0, 0)
abbrev GfS (i : Nat) : RI := (49, i, 0, 0, 0)
abbrev GfC (i : Nat) : RI := (50, i, 0, 0, 0)
abbrev BaldS : RI := (51, 0, 0, 0, 0)
abbrev AlenS : RI := (52, 0, 0, 0, 0)
abbrev LC (i v : Nat) : RI := (53, i, v, 0, 0)
abbrev CallV (i n y : Nat) : RI := (54, i, n, y, 0)
abbrev CallS (i n y : Nat) : RI := (55, i, n, y, 0)
abbrev Acopy (i : Nat) : RI := (56, i, 0, 0, 0)
abbrev Mmin (i : Nat) : RI := (57, i, 0, 0, 0)
abbrev Mmax (i : Nat) : RI := (58, i, 0, 0, 0)
abbrev MmaxL (i : Nat) : RI := (59, i, 0, 0, 0)
abbrev Tgoto (t : Nat) : RI := (70, t, 0, 0, 0)
abbrev Tfall (t : Nat) : RI := (71, t, 0, 0, 0)
abbrev Tif (k t n : Nat) : RI := (k, t, n, 0, 0)
abbrev Tsw (k d n : Nat) : RI := (k, d, n, 0, 0)
abbrev Tret (k : Nat) : RI := (k, 0, 0, 0, 0)
/-- the raw instruction that stands for one of ours, and its length -/
def rawI : RI → Option (Instr × Nat)
  | (0, k, _, _, v) => if k = 0 then some (.iconst v.toInt, 1) else if k = 1 then some (.bipush v.toInt, 2) else if k = 2 then some (.sipush v.toInt, 3) else if k % 2 = 1 then some (.ldc ((k - 3) / 2), 2) else some (.ldc_w ((k - 4) / 2), 3)
  | (1, n, _, _, _) => if h : n < 4 then some (.iload_n ⟨n, h⟩, 1) else some (.iload n, 2)
  | (2, n, _, _, _) => if h : n < 4 then some (.aload_n ⟨n, h⟩, 1) else some (.aload n, 2)
  | (3, n, _, _, _) => if h : n < 4 then some (.lload_n ⟨n, h⟩, 1) else some (.lload n, 2)
  | (4, n, _, _, _) => if h : n < 4 then some (.istore_n ⟨n, h⟩, 1) else some (.istore n, 2)
  | (5, n, _, _, _) => if h : n < 4 then some (.astore_n ⟨n, h⟩, 1) else some (.astore n, 2)
  | (6, n, _, _, _) => if h : n < 4 then some (.lstore_n ⟨n, h⟩, 1) else some (.lstore n, 2)
  | (7, n, _, _, v) => some (.iinc n v.toInt, 3)
  | (8, _) => some (.dup, 1)
  | (9, _) => some (.pop, 1)
  | (10, _) => some (.dup2, 1)
  | (11, _) => some (.iadd, 1)
  | (12, _) => some (.isub, 1)
  | (13, _) => some (.imul, 1)
  | (14, _) => some (.idiv, 1)
  | (15, _) => some (.irem, 1)
  | (16, _) => some (.iand, 1)
  | (17, _) => some (.ior, 1)
  | (18, _) => some (.ixor, 1)
  | (19, _) => some (.ishl, 1)
  | (20, _) => some (.ishr, 1)
  | (21, _) => some (.iushr, 1)
  | (22, _) => some (.ladd, 1)
  | (23, _) => some (.lsub, 1)
  | (24, _) => some (.lmul, 1)
  | (25, _) => some (.ldiv, 1)
  | (26, _) => some (.lrem, 1)
  | (27, _) => some (.lcmp, 1)
  | (28, _) => some (.i2l, 1)
  | (29, _) => some (.l2i, 1)
  | (30, _) => some (.i2b, 1)
  | (31, _) => some (.i2s, 1)
  | (32, _) => some (.i2c, 1)
  | (33, i, _) => some (.getfield i, 3)
  | (34, i, _) => some (.getfield i, 3)
  | (35, i, _) => some (.getfield i, 3)
  | (36, i, _) => some (.putfield i, 3)
  | (37, i, _) => some (.putfield i, 3)
  | (38, i, _) => some (.putfield i, 3)
  | (39, _) => some (.iaload, 1)
  | (40, _) => some (.iastore, 1)
  | (41, _) => some (.caload, 1)
  | (42, _) => some (.aaload, 1)
  | (43, _) => some (.arraylength, 1)
  | (44, _) => some (.iaload, 1)
  | (45, i, _) => some (.getstatic i, 3)
  | (46, i, _) => some (.getstatic i, 3)
  | (47, i, _) => some (.getstatic i, 3)
  | (48, i, _) => some (.ldc i, 2)
  | (49, i, _) => some (.getfield i, 3)
  | (50, i, _) => some (.getfield i, 3)
  | (51, _) => some (.baload, 1)
  | (52, _) => some (.arraylength, 1)
  | (53, i, v, _, _) => if i = 0 then (if h : v < 2 then some (.lconst ⟨v, h⟩, 1) else none) else some (.ldc2_w i, 3)
  | (54, i, _) => some (.invokevirtual i, 3)
  | (55, i, _) => some (.invokestatic i, 3)
  | (56, i, _) => some (.invokestatic i, 3)
  | (57, i, _) => some (.invokestatic i, 3)
  | (58, i, _) => some (.invokestatic i, 3)
  | (59, i, _) => some (.invokestatic i, 3)
  | _ => none
/-- the types of the fields: 0 int, 1 boolean, 2 long, 3 a reference -/
def fkL : List (List Nat) := [[3, 3, 3, 0, 0, 0, 0, 0], [3, 0, 0], [3, 3, 0, 0], [3, 0, 0, 0, 0, 0], [3, 3, 3, 3, 3, 3, 3, 0, 0, 0, 0, 0], [3, 3, 3, 3, 3, 3, 3, 3, 1], [3, 3, 3, 1, 3, 3, 3, 0, 3, 0, 3, 0, 0, 0, 0, 2, 3, 3, 3, 3, 3, 3, 3, 3]]
def fkT (c j : Nat) : Nat := (fkL.getD c []).getD j 9
abbrev mC (μ : Nat) : Nat := (mI μ).1
abbrev mY (μ : Nat) : MethodName := (mI μ).2.1
abbrev mB (μ : Nat) : ByteArray := (mI μ).2.2.1
abbrev mX (μ : Nat) : Nat := (mI μ).2.2.2.1
abbrev mR (μ : Nat) : Option FieldType := (mI μ).2.2.2.2.1
abbrev mE (μ : Nat) : Nat := (mI μ).2.2.2.2.2.1
abbrev mS (μ : Nat) : Bool := (mI μ).2.2.2.2.2.2.1
abbrev mA (μ : Nat) : Nat := (mI μ).2.2.2.2.2.2.2
/-- what an instruction names is what the tables say -/
def resI (μ : Nat) : RI → Bool
  | (0, k, _, _, v) => if k < 3 then (if k = 0 then Int32.ofInt v.toInt == v else if k = 1 then (Int8.ofInt v.toInt).toInt32 == v else (Int16.ofInt v.toInt).toInt32 == v) else ctab.any (fun e => e.1 == mC μ && e.2.1 == (if k % 2 = 1 then (k - 3) / 2 else (k - 4) / 2) && e.2.2.1 == v)
  | (4, n, _, _, _) => decide (n < mX μ)
  | (5, n, _, _, _) => decide (n < mX μ)
  | (6, n, _, _, _) => decide (n + 1 < mX μ)
  | (7, n, _, _, v) => decide (n < mX μ) && Int32.ofInt v.toInt == v
  | (33, i, c, j, _) => ftab.any (fun e => e.1 == mC μ && e.2.1 == i && e.2.2.1 == c && e.2.2.2.1 == j) && decide (fkT c j < 2)
  | (34, i, c, j, _) => ftab.any (fun e => e.1 == mC μ && e.2.1 == i && e.2.2.1 == c && e.2.2.2.1 == j) && decide (fkT c j = 2)
  | (35, i, c, j, _) => ftab.any (fun e => e.1 == mC μ && e.2.1 == i && e.2.2.1 == c && e.2.2.2.1 == j) && decide (fkT c j = 3)
  | (36, i, c, j, _) => ftab.any (fun e => e.1 == mC μ && e.2.1 == i && e.2.2.1 == c && e.2.2.2.1 == j) && decide (fkT c j = 0)
  | (37, i, c, j, _) => ftab.any (fun e => e.1 == mC μ && e.2.1 == i && e.2.2.1 == c && e.2.2.2.1 == j) && decide (fkT c j = 1)
  | (38, i, c, j, _) => ftab.any (fun e => e.1 == mC μ && e.2.1 == i && e.2.2.1 == c && e.2.2.2.1 == j) && decide (fkT c j = 2)
  | (45, i, k, _, _) => satab.any (fun e => e.1 == mC μ && e.2.1 == i && e.2.2.1 == k)
  | (46, i, _) => sttab.any (fun e => e.1 == mC μ && e.2.1 == i && e.2.2.1 == 2)
  | (47, i, _) => sttab.any (fun e => e.1 == mC μ && e.2.1 == i && e.2.2.1 == 3)
  | (48, i, k, _, _) => mC μ == 3 && decide (300 ≤ k) && ((strL[k - 300]?).map (fun q => q.1)) == some i
  | (49, i, _) => sttab.any (fun e => e.1 == mC μ && e.2.1 == i && e.2.2.1 == 0)
  | (50, i, _) => sttab.any (fun e => e.1 == mC μ && e.2.1 == i && e.2.2.1 == 1)
  | (53, i, v, _, _) => i == 0 || lctab.any (fun e => e.1 == mC μ && e.2.1 == i && e.2.2.1 == v)
  | (54, i, n, y, _) => ktab.any (fun e => e.1 == mC μ && e.2.1 == i && e.2.2.1 == y) && !(mS y) && mA y == n && decide (mE y < mE μ)
  | (55, i, n, y, _) => ktab.any (fun e => e.1 == mC μ && e.2.1 == i && e.2.2.1 == y) && mS y && mA y == n && decide (mE y < mE μ)
  | (56, i, _) => ntab.any (fun e => e.1 == mC μ && e.2.1 == i && e.2.2.1 == 3) && decide (0 < mE μ)
  | (57, i, _) => ntab.any (fun e => e.1 == mC μ && e.2.1 == i && e.2.2.1 == 0) && decide (0 < mE μ)
  | (58, i, _) => ntab.any (fun e => e.1 == mC μ && e.2.1 == i && e.2.2.1 == 1) && decide (0 < mE μ)
  | (59, i, _) => ntab.any (fun e => e.1 == mC μ && e.2.1 == i && e.2.2.1 == 2) && decide (0 < mE μ)
  | _ => true
def decIs (cc : ByteArray) (pc : Nat) (q : Instr × Nat) : Bool := match decode cc pc with
  | .ok z => decide (z = q)
  | .error _ => false
def chkI (μ pc : Nat) (i : RI) : Option Nat := match rawI i with
  | some q => if decIs (mB μ) pc q && resI μ i then some (pc + q.2) else none
  | none => none
def chkL (μ : Nat) : Nat → List RI → Option Nat
  | pc, [] => some pc
  | pc, i :: L => match chkI μ pc i with
    | some q => chkL μ q L
    | none => none
def rawT (pc : Nat) : RI → List (Int32 × Nat) → Option (Instr × Nat)
  | (70, t, _), _ => some (.goto ((t : Int) - pc), 3)
  | (72, t, _), _ => some (.ifCond .eq ((t : Int) - pc), 3)
  | (73, t, _), _ => some (.ifCond .ne ((t : Int) - pc), 3)
  | (74, t, _), _ => some (.ifCond .lt ((t : Int) - pc), 3)
  | (75, t, _), _ => some (.ifCond .ge ((t : Int) - pc), 3)
  | (76, t, _), _ => some (.ifCond .gt ((t : Int) - pc), 3)
  | (77, t, _), _ => some (.ifCond .le ((t : Int) - pc), 3)
  | (78, t, _), _ => some (.if_icmp .eq ((t : Int) - pc), 3)
  | (79, t, _), _ => some (.if_icmp .ne ((t : Int) - pc), 3)
  | (80, t, _), _ => some (.if_icmp .lt ((t : Int) - pc), 3)
  | (81, t, _), _ => some (.if_icmp .ge ((t : Int) - pc), 3)
  | (82, t, _), _ => some (.if_icmp .gt ((t : Int) - pc), 3)
  | (83, t, _), _ => some (.if_icmp .le ((t : Int) - pc), 3)
  | (84, _), _ => some (.ireturn, 1)
  | (85, _), _ => some (.ireturn, 1)
  | (86, _), _ => some (.lreturn, 1)
  | (87, _), _ => some (.return_, 1)
  | (88, _), _ => some (.areturn, 1)
  | (89, _), _ => some (.ireturn, 1)
  | (92, _), _ => some (.ireturn, 1)
  | (90, d, n, _, _), l => match l with
    | [] => none
    | (k, _) :: _ => some (.tableswitch ((d : Int) - pc) k.toInt (k.toInt + l.length - 1) ((l.map (fun q => (q.2 : Int) - pc)).toArray), n - pc)
  | (91, d, n, _, _), l => some (.lookupswitch ((d : Int) - pc) ((l.map (fun q => (q.1.toInt, (q.2 : Int) - pc))).toArray), n - pc)
  | _, _ => none
def retIs (r : Option FieldType) : Nat → Bool
  | 84 => r == some .int
  | 85 => r == some .boolean
  | 86 => r == some .long
  | 87 => r == none
  | 88 => r == some (.object "java/lang/String")
  | 89 => r == some .char
  | 92 => r == some .byte
  | _ => false
/-- a table's keys are consecutive; a lookup's stand in order -/
def keysUp : Int32 → List (Int32 × Nat) → Bool
  | _, [] => true
  | k, q :: l => q.1 == k && keysUp (k + 1) l
def chkT (μ pc : Nat) (t : RI) (l : List (Int32 × Nat)) : Bool := match rawT pc t l with
  | some q => decIs (mB μ) pc q && (if t.1 < 84 then (t.1 < 72 || t.2.2.1 == pc + 3) else if t.1 = 90 then (keysUp ((l.getD 0 (0, 0)).1) l && decide (l.length < 100) && decide (0 ≤ ((l.getD 0 (0, 0)).1).toInt) && decide (((l.getD 0 (0, 0)).1).toInt < 100)) else if t.1 = 91 then ((l.map (fun q => (q.1.toInt, (q.2 : Int) - pc))).zip ((l.map (fun q => (q.1.toInt, (q.2 : Int) - pc))).drop 1)).all (fun (a, next) => a.1 < next.1) else retIs (mR μ) t.1)
  | none => t.1 == 71 && t.2.1 == pc
def chkB (μ : Nat) (b : BK) : Bool := match chkL μ b.1 b.2.1 with
  | some q => chkT μ q b.2.2.1 b.2.2.2
  | none => false
def chkM (μ : Nat) (l : List BK) : Bool := l.all (chkB μ)
