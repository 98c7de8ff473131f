/-! what the instructions do to locals, stack and store -/
def lvGet : List Value → Nat → Option Value
  | [], _ => none
  | v :: _, 0 => some v
  | .long _ :: _, 1 => none
  | .long _ :: l, n + 2 => lvGet l n
  | .double _ :: _, 1 => none
  | .double _ :: l, n + 2 => lvGet l n
  | _ :: l, n + 1 => lvGet l n
def sameCat : Value → Value → Bool
  | .long _, .long _ => true
  | .long _, _ => false
  | _, .long _ => false
  | .double _, _ => false
  | _, .double _ => false
  | _, _ => true
def lvSet : List Value → Nat → Value → Option (List Value)
  | [], 0, v => some [v]
  | [], _ + 1, _ => none
  | w :: l, 0, v => if sameCat w v then some (v :: l) else some [v]
  | .long _ :: _, 1, _ => none
  | .long x :: l, n + 2, v => (lvSet l n v).map (.long x :: ·)
  | .double _ :: _, 1, _ => none
  | .double x :: l, n + 2, v => (lvSet l n v).map (.double x :: ·)
  | w :: l, n + 1, v => (lvSet l n v).map (w :: ·)
/-- cells by number: what each is, and its length: below 10 an object of that class; 100 int[], 101 char[], 102 int[][], 103 Sheet[]; 104 a table of ints, 105 the bytes of a text, 106 a text -/
def shX : List (Nat × Nat) := [(5, 9)] ++ ([(0, 8), (102, 10)] ++ List.replicate 10 (100, 10) ++ [(100, 5), (100, 10)]) ++ ([(0, 8), (102, 10)] ++ List.replicate 10 (100, 10) ++ [(100, 5), (100, 10)]) ++ ([(0, 8), (102, 10)] ++ List.replicate 10 (100, 10) ++ [(100, 5), (100, 10)])
  ++ [(4, 12), (100, 1024), (100, 1024), (100, 1024), (100, 1024), (100, 1024), (100, 10), (2, 4), (3, 6), (100, 120), (103, 4), (1, 3), (100, 40), (1, 3), (100, 40), (1, 3), (100, 40), (1, 3), (100, 40), (100, 7)]
def shM : List (Nat × Nat) := [(6, 24), (100, 120), (100, 120), (100, 120), (100, 7), (100, 1024), (100, 10), (100, 1024), (100, 120), (101, 42), (101, 36), (101, 18), (100, 6), (100, 4), (100, 4), (100, 160), (100, 40)]
def tabLen : List Nat := [10, 10, 10, 5, 5, 7]
def tabV : List (List Int32) := [[0, 1, 0, 0, 0, 0, 0, 0, 0, 0], [6, 60, 9, 40, 3, 2, 4, 9, 1023, 1023], [0, 10, 0, 0, 0, 1, 0, 0, 0, 0], [15, 40, 1023, 60, 60], [0, 0, 0, 5, 5], [-1, 0, 0, 2, 3, 1, 0]]
def strB : List (List Int32) := strL.map (fun q => q.2.toList.map (fun c => Int32.ofNat c.toNat))
def nC (g : Nat) : Nat := if g = 0 then 63 else 17
def shp (g k : Nat) : Nat × Nat := if g = 0 then (if k < 200 then shX.getD k (999, 0) else if k < 300 then (104, tabLen.getD (k - 200) 0) else if k < 400 then (106, 0) else (105, (strB.getD (k - 400) []).length)) else shM.getD k (999, 0)
def rfC (c : Nat) : List (List Nat) := [[c + 1, c + 12, c + 13], [c + 2, c + 3, c + 4, c + 5, c + 6, c + 7, c + 8, c + 9, c + 10, c + 11]] ++ List.replicate 12 []
def rfX : List (List Nat) := [[1, 15, 29, 43, 50, 51, 53, 62]] ++ rfC 1 ++ rfC 15 ++ rfC 29 ++ [[1, 44, 45, 46, 47, 48, 49], [], [], [], [], [], [], [1, 43], [52], [], [54, 56, 58, 60], [55], [], [57], [], [59], [], [61], [], []]
def rfM : List Nat := [1, 2, 3, 0, 4, 5, 6, 0, 7, 0, 8, 0, 0, 0, 0, 0, 9, 10, 11, 12, 13, 14, 15, 16]
def rfs (g k j : Nat) : Nat := if g = 0 then (if k < 300 then (rfX.getD k []).getD j 0 else k + 100) else (if k = 0 then rfM.getD j 0 else 0)
def cst (k j : Nat) : Int32 := if k < 300 then (tabV.getD (k - 200) []).getD j 0 else (strB.getD (k - 400) []).getD j 0
/-- behind a call: at most four values lie below -/
def le4 (st : List Value) (P : Prop) : Prop := match st with
  | _ :: _ :: _ :: _ :: _ :: _ => False
  | _ => P
def wpI (g : Nat) (Sp : SPT) : RI → List Value → List Value → St2 → KT → Prop
  | (0, _, _, _, v), ls, st, σ, K => K ls (.int v :: st) σ
  | (1, n, _), ls, st, σ, K => match lvGet ls n with | some (.int x) => K ls (.int x :: st) σ | _ => False
  | (2, n, _), ls, st, σ, K => match lvGet ls n with | some (.ref x) => K ls (.ref x :: st) σ | _ => False
  | (3, n, _), ls, st, σ, K => match lvGet ls n with | some (.long x) => K ls (.long x :: st) σ | _ => False
  | (4, n, _), ls, st, σ, K => match st with | .int x :: st => (match lvSet ls n (.int x) with | some ls => K ls st σ | none => False) | _ => False
  | (5, n, _), ls, st, σ, K => match st with | .ref x :: st => (match lvSet ls n (.ref x) with | some ls => K ls st σ | none => False) | _ => False
  | (6, n, _), ls, st, σ, K => match st with | .long x :: st => (match lvSet ls n (.long x) with | some ls => K ls st σ | none => False) | _ => False
  | (7, n, _, _, v), ls, st, σ, K => match lvGet ls n with | some (.int x) => (match lvSet ls n (.int (x + v)) with | some ls => K ls st σ | none => False) | _ => False
  | (8, _), ls, st, σ, K => match st with | .int x :: st => K ls (.int x :: .int x :: st) σ | .ref x :: st => K ls (.ref x :: .ref x :: st) σ | _ => False
  | (9, _), ls, st, σ, K => match st with | .int _ :: st => K ls st σ | .ref _ :: st => K ls st σ | _ => False
  | (10, _), ls, st, σ, K => match st with | .int y :: .ref x :: st => K ls (.int y :: .ref x :: .int y :: .ref x :: st) σ | .int y :: .int x :: st => K ls (.int y :: .int x :: .int y :: .int x :: st) σ | _ => False
  | (11, _), ls, st, σ, K => match st with | .int y :: .int x :: st => K ls (.int (x + y) :: st) σ | _ => False
  | (12, _), ls, st, σ, K => match st with | .int y :: .int x :: st => K ls (.int (x - y) :: st) σ | _ => False
  | (13, _), ls, st, σ, K => match st with | .int y :: .int x :: st => K ls (.int (x * y) :: st) σ | _ => False
  | (14, _), ls, st, σ, K => match st with | .int y :: .int x :: st => (¬ y = 0) ∧ K ls (.int (x / y) :: st) σ | _ => False
  | (15, _), ls, st, σ, K => match st with | .int y :: .int x :: st => (¬ y = 0) ∧ K ls (.int (x - x / y * y) :: st) σ | _ => False
  | (16, _), ls, st, σ, K => match st with | .int y :: .int x :: st => K ls (.int (x &&& y) :: st) σ | _ => False
  | (17, _), ls, st, σ, K => match st with | .int y :: .int x :: st => K ls (.int (x ||| y) :: st) σ | _ => False
  | (18, _), ls, st, σ, K => match st with | .int y :: .int x :: st => K ls (.int (x ^^^ y) :: st) σ | _ => False
  | (19, _), ls, st, σ, K => match st with | .int y :: .int x :: st => K ls (.int (x <<< (y &&& 31)) :: st) σ | _ => False
  | (20, _), ls, st, σ, K => match st with | .int y :: .int x :: st => K ls (.int (x >>> (y &&& 31)) :: st) σ | _ => False
  | (21, _), ls, st, σ, K => match st with | .int y :: .int x :: st => K ls (.int (x.toUInt32 >>> (y.toUInt32 &&& Int32.toUInt32 31)).toInt32 :: st) σ | _ => False
  | (22, _), ls, st, σ, K => match st with | .long y :: .long x :: st => K ls (.long (x + y) :: st) σ | _ => False
  | (23, _), ls, st, σ, K => match st with | .long y :: .long x :: st => K ls (.long (x - y) :: st) σ | _ => False
  | (24, _), ls, st, σ, K => match st with | .long y :: .long x :: st => K ls (.long (x * y) :: st) σ | _ => False
  | (25, _), ls, st, σ, K => match st with | .long y :: .long x :: st => (¬ y = 0) ∧ K ls (.long (x / y) :: st) σ | _ => False
  | (26, _), ls, st, σ, K => match st with | .long y :: .long x :: st => (¬ y = 0) ∧ K ls (.long (x - x / y * y) :: st) σ | _ => False
  | (27, _), ls, st, σ, K => match st with | .long y :: .long x :: st => K ls (.int (lg_cmp x y) :: st) σ | _ => False
  | (28, _), ls, st, σ, K => match st with | .int x :: st => K ls (.long x.toInt64 :: st) σ | _ => False
  | (29, _), ls, st, σ, K => match st with | .long x :: st => K ls (.int x.toInt32 :: st) σ | _ => False
  | (30, _), ls, st, σ, K => match st with | .int x :: st => K ls (.int x.toInt8.toInt32 :: st) σ | _ => False
  | (31, _), ls, st, σ, K => match st with | .int x :: st => K ls (.int x.toInt16.toInt32 :: st) σ | _ => False
  | (32, _), ls, st, σ, K => match st with | .int x :: st => K ls (.int (x.toUInt32 % 65536).toInt32 :: st) σ | _ => False
  | (33, _, c, j, _), ls, st, σ, K => match st with | .ref k :: st => (k < nC g ∧ (shp g k).1 = c) ∧ K ls (.int (σ.1 k j) :: st) σ | _ => False
  | (34, _, c, j, _), ls, st, σ, K => match st with | .ref k :: st => (k < nC g ∧ (shp g k).1 = c) ∧ K ls (.long (σ.2 k j) :: st) σ | _ => False
  | (35, _, c, j, _), ls, st, σ, K => match st with | .ref k :: st => (k < nC g ∧ (shp g k).1 = c) ∧ K ls (.ref (rfs g k j) :: st) σ | _ => False
  | (36, _, c, j, _), ls, st, σ, K => match st with | .int v :: .ref k :: st => (k < nC g ∧ (shp g k).1 = c) ∧ K ls st (si σ k j v) | _ => False
  | (37, _, c, j, _), ls, st, σ, K => match st with | .int v :: .ref k :: st => (k < nC g ∧ (shp g k).1 = c) ∧ (v = 0 ∨ v = 1) ∧ K ls st (si σ k j v) | _ => False
  | (38, _, c, j, _), ls, st, σ, K => match st with | .long v :: .ref k :: st => (k < nC g ∧ (shp g k).1 = c) ∧ K ls st (sl σ k j v) | _ => False
  | (39, _), ls, st, σ, K => match st with | .int i :: .ref k :: st => (k < nC g ∧ (shp g k).1 = 100) ∧ vp_in i (shp g k).2 ∧ K ls (.int (σ.1 k i.toNatClampNeg) :: st) σ | _ => False
  | (40, _), ls, st, σ, K => match st with | .int v :: .int i :: .ref k :: st => (k < nC g ∧ (shp g k).1 = 100) ∧ vp_in i (shp g k).2 ∧ K ls st (si σ k i.toNatClampNeg v) | _ => False
  | (41, _), ls, st, σ, K => match st with | .int i :: .ref k :: st => (k < nC g ∧ (shp g k).1 = 101) ∧ vp_in i (shp g k).2 ∧ K ls (.int (σ.1 k i.toNatClampNeg) :: st) σ | _ => False
  | (42, _), ls, st, σ, K => match st with | .int i :: .ref k :: st => (k < nC g ∧ ((shp g k).1 = 102 ∨ (shp g k).1 = 103)) ∧ vp_in i (shp g k).2 ∧ K ls (.ref (rfs g k i.toNatClampNeg) :: st) σ | _ => False
  | (43, _), ls, st, σ, K => match st with | .ref k :: st => (k < nC g ∧ ((shp g k).1 = 100 ∨ (shp g k).1 = 101)) ∧ K ls (.int (nI (shp g k).2) :: st) σ | _ => False
  | (44, _), ls, st, σ, K => match st with | .int i :: .ref k :: st => (g = 0 ∧ 200 ≤ k ∧ k < 206) ∧ vp_in i (shp g k).2 ∧ K ls (.int (cst k i.toNatClampNeg) :: st) σ | _ => False
  | (45, _, k, _), ls, st, σ, K => g = 0 ∧ K ls (.ref k :: st) σ
  | (46, _), ls, st, σ, K => g = 0 ∧ K ls (.int 1 :: st) σ
  | (47, _), ls, st, σ, K => g = 0 ∧ K ls (.null :: st) σ ∧ K ls (.ref 999 :: st) σ
  | (48, _, k, _), ls, st, σ, K => g = 0 ∧ K ls (.ref k :: st) σ
  | (49, _), ls, st, σ, K => match st with | .ref k :: st => (g = 0 ∧ 300 ≤ k ∧ k < 316) ∧ K ls (.ref (k + 100) :: st) σ | _ => False
  | (50, _), ls, st, σ, K => match st with | .ref k :: st => (g = 0 ∧ 300 ≤ k ∧ k < 316) ∧ K ls (.int 0 :: st) σ | _ => False
  | (51, _), ls, st, σ, K => match st with | .int i :: .ref k :: st => (g = 0 ∧ 400 ≤ k ∧ k < 416) ∧ vp_in i (shp g k).2 ∧ K ls (.int (cst k i.toNatClampNeg) :: st) σ | _ => False
  | (52, _), ls, st, σ, K => match st with | .ref k :: st => (g = 0 ∧ 400 ≤ k ∧ k < 416) ∧ K ls (.int (nI (shp g k).2) :: st) σ | _ => False
  | (53, _, v, _), ls, st, σ, K => K ls (.long (lN v) :: st) σ
  | (54, _, n, y, _), ls, st, σ, K => le4 (st.drop n) (n ≤ st.length ∧ Sp y (st.take n).reverse σ (fun r σ => K ls (r.toList ++ st.drop n) σ))
  | (55, _, n, y, _), ls, st, σ, K => le4 (st.drop n) (n ≤ st.length ∧ Sp y (st.take n).reverse σ (fun r σ => K ls (r.toList ++ st.drop n) σ))
  | (56, _), ls, st, σ, K => match st with | .int n :: .int dp :: .ref k :: .int sp :: .ref k0 :: st => (k < nC g ∧ (shp g k).1 = 100) ∧ (k0 < nC g ∧ (shp g k0).1 = 100) ∧ (¬ sp < 0 ∧ ¬ dp < 0 ∧ ¬ n < 0) ∧ (sp.toNatClampNeg + n.toNatClampNeg ≤ (shp g k0).2 ∧ dp.toNatClampNeg + n.toNatClampNeg ≤ (shp g k).2) ∧ le4 st (K ls st (sr σ k (va_cpy (σ.1 k0) (σ.1 k) sp.toNatClampNeg dp.toNatClampNeg n.toNatClampNeg))) | _ => False
  | (57, _), ls, st, σ, K => match st with | .int y :: .int x :: st => le4 st (K ls (.int (if y < x then y else x) :: st) σ) | _ => False
  | (58, _), ls, st, σ, K => match st with | .int y :: .int x :: st => le4 st (K ls (.int (if x < y then y else x) :: st) σ) | _ => False
  | (59, _), ls, st, σ, K => match st with | .long y :: .long x :: st => le4 st (K ls (.long (if y < x then x else y) :: st) σ) | _ => False
  | _, _, _, _, _ => False
def wpL (g : Nat) (Sp : SPT) : List RI → List Value → List Value → St2 → KT → Prop
  | [], ls, st, σ, K => K ls st σ
  | i :: L, ls, st, σ, K => wpI g Sp i ls st σ (fun ls st σ => wpL g Sp L ls st σ K)
def swP (P : Nat → KT) (x : Int32) (d : Nat) (ls st : List Value) (σ : St2) : List (Int32 × Nat) → Prop
  | [] => P d ls st σ
  | q :: l => (x = q.1 → P q.2 ls st σ) ∧ (¬ x = q.1 → swP P x d ls st σ l)
def wpT (P : Nat → KT) (Post : PO) : RI → List (Int32 × Nat) → KT
  | (70, t, _), _ => fun ls st σ => P t ls st σ
  | (71, t, _), _ => fun ls st σ => P t ls st σ
  | (72, t, n, _), _ => fun ls st σ => match st with | .int x :: st => (x = 0 → P t ls st σ) ∧ (¬ x = 0 → P n ls st σ) | _ => False
  | (73, t, n, _), _ => fun ls st σ => match st with | .int x :: st => (¬ x = 0 → P t ls st σ) ∧ (x = 0 → P n ls st σ) | _ => False
  | (74, t, n, _), _ => fun ls st σ => match st with | .int x :: st => (x < 0 → P t ls st σ) ∧ (¬ x < 0 → P n ls st σ) | _ => False
  | (75, t, n, _), _ => fun ls st σ => match st with | .int x :: st => (¬ x < 0 → P t ls st σ) ∧ (x < 0 → P n ls st σ) | _ => False
  | (76, t, n, _), _ => fun ls st σ => match st with | .int x :: st => (0 < x → P t ls st σ) ∧ (¬ 0 < x → P n ls st σ) | _ => False
  | (77, t, n, _), _ => fun ls st σ => match st with | .int x :: st => (¬ 0 < x → P t ls st σ) ∧ (0 < x → P n ls st σ) | _ => False
  | (78, t, n, _), _ => fun ls st σ => match st with | .int y :: .int x :: st => (x = y → P t ls st σ) ∧ (¬ x = y → P n ls st σ) | _ => False
  | (79, t, n, _), _ => fun ls st σ => match st with | .int y :: .int x :: st => (¬ x = y → P t ls st σ) ∧ (x = y → P n ls st σ) | _ => False
  | (80, t, n, _), _ => fun ls st σ => match st with | .int y :: .int x :: st => (x < y → P t ls st σ) ∧ (¬ x < y → P n ls st σ) | _ => False
  | (81, t, n, _), _ => fun ls st σ => match st with | .int y :: .int x :: st => (¬ x < y → P t ls st σ) ∧ (x < y → P n ls st σ) | _ => False
  | (82, t, n, _), _ => fun ls st σ => match st with | .int y :: .int x :: st => (y < x → P t ls st σ) ∧ (¬ y < x → P n ls st σ) | _ => False
  | (83, t, n, _), _ => fun ls st σ => match st with | .int y :: .int x :: st => (¬ y < x → P t ls st σ) ∧ (y < x → P n ls st σ) | _ => False
  | (84, _), _ => fun _ st σ => match st with | [.int x] => Post (some (.int x)) σ | _ => False
  | (85, _), _ => fun _ st σ => match st with | [.int x] => (x = 0 ∨ x = 1) ∧ Post (some (.int x)) σ | _ => False
  | (86, _), _ => fun _ st σ => match st with | [.long x] => Post (some (.long x)) σ | _ => False
  | (87, _), _ => fun _ st σ => match st with | [] => Post none σ | _ => False
  | (88, _), _ => fun _ st σ => match st with | [.ref x] => Post (some (.ref x)) σ | _ => False
  | (89, _), _ => fun _ st σ => match st with | [.int x] => narrow .char (.int x) = .int x ∧ Post (some (.int x)) σ | _ => False
  | (92, _), _ => fun _ st σ => match st with | [.int x] => narrow .byte (.int x) = .int x ∧ Post (some (.int x)) σ | _ => False
  | (90, d, _), l => fun ls st σ => match st with | .int x :: st => swP P x d ls st σ l | _ => False
  | (91, d, _), l => fun ls st σ => match st with | .int x :: st => swP P x d ls st σ l | _ => False
  | _, _ => fun _ _ _ => False
