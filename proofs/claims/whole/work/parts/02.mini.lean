/-! A small machine over named objects: the objects of class, reference and law are a fixed tree; only whole numbers in them change. -/
abbrev mO : Type := Nat × Nat × Nat × Nat
abbrev mV : Type := Int32 ⊕ (Int64 ⊕ mO)
abbrev mS : Type := (mO → Nat → Int32) × (mO → Nat → Int64)
abbrev mR : Type := Option (Option mV) × mS
abbrev mQ : Type := Nat × Nat × List (Option mV) × List mV × mS
abbrev mE : Type := Nat × Jvm.ClassFile.Instr × Nat × List Nat × List Nat
abbrev mK : Type := List mE → List (Option mV) → List mV → mS → Option mR
def lget : List (Option mV) → Nat → Option mV
  | [], _ => none
  | v :: _, 0 => v
  | _ :: L, i + 1 => lget L i
def lset : List (Option mV) → Nat → Option mV → List (Option mV)
  | [], _, _ => []
  | _ :: L, 0, w => w :: L
  | v :: L, i + 1, w => v :: lset L i w
def lwipe (L : List (Option mV)) (i : Nat) : List (Option mV) := match lget L i with
  | some (.inr (.inl _)) => lset L i none
  | _ => L
def lput (L : List (Option mV)) (i : Nat) (v : mV) : List (Option mV) := match i with
  | 0 => lset L 0 (some v)
  | k + 1 => lset (lwipe L k) (k + 1) (some v)
def lputL (L : List (Option mV)) (i : Nat) (v : mV) : List (Option mV) := lset (lput L i v) (i + 1) none
def lmask : List Nat → List (Option mV) → List (Option mV)
  | 0 :: M, _ :: L => none :: lmask M L
  | _ :: M, v :: L => v :: lmask M L
  | _, _ => []
def dropTo : List mE → Nat → List mE
  | [], _ => []
  | e :: r, t => bif Nat.beq e.1 t then e :: r else dropTo r t
/-- a whole number of an object changes -/
def st (σ : mS) (o : mO) (i : Nat) (v : Int32) : mS := (fun o' i' => if o' = o ∧ i' = i then v else σ.1 o' i', σ.2)
def stL (σ : mS) (o : mO) (i : Nat) (v : Int64) : mS := (σ.1, fun o' i' => if o' = o ∧ i' = i then v else σ.2 o' i')
/-- a run of numbers of one row comes into another -/
def stC (σ : mS) (o1 : mO) (p1 : Nat) (o2 : mO) (p2 n : Nat) : mS := (fun o' i' => if o' = o2 ∧ p2 ≤ i' ∧ i' < p2 + n then σ.1 o1 (p1 + (i' - p2)) else σ.1 o' i', σ.2)
/-- kinds of rows: 1 int, 2 byte, 3 boolean, 4 long, 5 references, 6 the script, 7 a static row -/
def kRow (k : Nat) : Nat × Nat := match k with
  | 11 => (1, 12) | 12 => (5, 6) | 13 => (5, 4) | 14 => (1, 40) | 15 => (1, 9) | 16 => (1, 6) | 17 => (1, 6) | 18 => (1, 6) | 19 => (1, 6)
  | 20 => (5, 6) | 21 => (5, 2) | 22 => (3, 2) | 23 => (1, 80) | 24 => (4, 16) | 25 => (1, 36)
  | 30 => (1, 1432) | 31 => (2, 80) | 32 => (4, 40) | 33 => (1, 36) | 34 => (1, 6) | 35 => (1, 6) | 36 => (1, 1432) | 37 => (1, 400) | 38 => (1, 8592) | 39 => (1, 1432) | 40 => (1, 2864) | 41 => (3, 2)
  | 45 => (4, 1) | 46 => (6, 0)
  | 50 => (7, 12) | 51 => (7, 12) | 52 => (7, 13)
  | _ => (0, 0)
/-- the object in a field: of classes 0 Air, 3 Had, 4 Numbers, 5 Past, 6 Queue, 7 Signs, 8 Station, 9 SharedAir, 10 the reference -/
def kFld (f : Nat) (o : mO) : Option mO := match o with
  | (0, a, _, _) => (match f with | 0 => some (11, a, 0, 0) | 1 => some (1, a, 0, 0) | 2 => some (12, a, 0, 0) | _ => none)
  | (3, a, s, _) => (match f with | 0 => some (15, a, s, 0) | 1 => some (16, a, s, 0) | _ => none)
  | (4, _, _, _) => (match f with | 0 => some (24, 0, 0, 0) | _ => none)
  | (5, _, _, _) => (match f with | 0 => some (20, 0, 0, 0) | _ => none)
  | (6, a, s, r) => (match f with | 0 => some (14, a, s, r) | _ => none)
  | (7, _, _, _) => (match f with | 0 => some (23, 0, 0, 0) | _ => none)
  | (8, a, s, _) => (match f with | 0 => some (13, a, s, 0) | 1 => some (2, a, s, 0) | 2 => some (3, a, s, 0) | 3 => some (17, a, s, 0) | 4 => some (18, a, s, 0) | 5 => some (19, a, s, 0) | _ => none)
  | (9, _, _, _) => (match f with | 0 => some (0, 0, 0, 0) | 1 => some (0, 1, 0, 0) | 2 => some (1, 10, 0, 0) | 3 => some (5, 0, 0, 0) | 4 => some (21, 0, 0, 0) | 5 => some (22, 0, 0, 0) | 6 => some (7, 0, 0, 0) | 7 => some (4, 0, 0, 0) | 8 => some (25, 0, 0, 0) | _ => none)
  | (10, _, _, _) => (match f with | 0 => some (30, 0, 0, 0) | 1 => some (31, 0, 0, 0) | 3 => some (32, 0, 0, 0) | 9 => some (33, 0, 0, 0) | 10 => some (34, 0, 0, 0) | 11 => some (35, 0, 0, 0) | 13 => some (36, 0, 0, 0) | 14 => some (37, 0, 0, 0) | 15 => some (38, 0, 0, 0) | 16 => some (39, 0, 0, 0) | 19 => some (40, 0, 0, 0) | 20 => some (41, 0, 0, 0) | _ => none)
  | _ => none
def kEl (i : Nat) (o : mO) : Option mO := match o with
  | (12, a, _, _) => some (8, a, i, 0)
  | (13, a, s, _) => some (6, a, s, i)
  | (20, _, _, _) => some (0, 4 + i, 0, 0)
  | (21, _, _, _) => some (0, 2 + i, 0, 0)
  | _ => none
def bdV (r : Option mR) (k : mS → Option mR) : Option mR := match r with
  | some (some none, σ) => k σ
  | _ => none
def bdI (r : Option mR) (k : Int32 → mS → Option mR) : Option mR := match r with
  | some (some (some (.inl x)), σ) => k x σ
  | _ => none
def bdL (r : Option mR) (k : Int64 → mS → Option mR) : Option mR := match r with
  | some (some (some (.inr (.inl x))), σ) => k x σ
  | _ => none
/-- a call that may throw, inside a try -/
def bdX (r : Option mR) (k : Int32 → mS → Option mR) (kx : mS → Option mR) : Option mR := match r with
  | some (some (some (.inl x)), σ) => k x σ
  | some (none, σ) => kx σ
  | _ => none
def bdY (r : Option mR) (k : Int64 → mS → Option mR) (kx : mS → Option mR) : Option mR := match r with
  | some (some (some (.inr (.inl x))), σ) => k x σ
  | some (none, σ) => kx σ
  | _ => none
def largs : Nat → List mV → List (Option mV)
  | 0, _ => []
  | n + 1, [] => none :: largs n []
  | 1, .inr (.inl _) :: _ => [none]
  | n + 2, .inr (.inl x) :: A => some (.inr (.inl x)) :: none :: largs n A
  | n + 1, v :: A => some v :: largs n A
def swords : List mV → Nat
  | [] => 0
  | .inr (.inl _) :: S => swords S + 2
  | _ :: S => swords S + 1
/-- a row of targets -/
def mswitch (x : Int32) (J : Nat → Option mR) (d : Nat) : Nat → List Nat → Option mR
  | _, [] => J d
  | k, t :: ts => if x = nI k then J t else mswitch x J d (k + 1) ts
/-- a jump: ahead, or to a named place -/
def mjump (Rf : mQ → Option mR) (j : Nat) (K : mK) (rest : List mE) (info : List Nat) (L : List (Option mV)) (S : List mV) (σ : mS) : Option mR := match info with
  | t :: 0 :: _ => K (dropTo rest t) L S σ
  | t :: _ :: M => Rf (j, t, lmask M L, S, σ)
  | _ => none
/-- a call: n values, the callee's number and size, what it answers (0 nothing, 1 int, 2 long; 3, 4: the same in a try, and the place behind its catch) -/
def mrc (k : Nat) (acc : List mV) : Bool := bif Nat.beq k 1000 then true else match acc with
  | .inr (.inr o) :: _ => Nat.beq o.1 k
  | _ => false
def mcall (Rf : mQ → Option mR) (K : mK) (rest : List mE) (info : List Nat) (L : List (Option mV)) (σ : mS) (kr : Nat) : Nat → List mV → List mV → Option mR
  | n + 1, acc, v :: S => mcall Rf K rest info L σ kr n (v :: acc) S
  | _ + 1, _, [] => none
  | 0, acc, S => bif Nat.ble (swords S) 8 && Nat.ble (swords acc) (info.getD 1 0) && mrc kr acc then (match info with
    | [jc, ml, 0] => bdV (Rf (jc, 0, largs ml acc, [], σ)) (fun σ' => K rest L S σ')
    | [jc, ml, 1] => bdI (Rf (jc, 0, largs ml acc, [], σ)) (fun x σ' => K rest L (.inl x :: S) σ')
    | [jc, ml, 2] => bdL (Rf (jc, 0, largs ml acc, [], σ)) (fun x σ' => K rest L (.inr (.inl x) :: S) σ')
    | [jc, ml, 3, h] => bdX (Rf (jc, 0, largs ml acc, [], σ)) (fun x σ' => K rest L (.inl x :: S) σ') (fun σ' => K (dropTo rest h) L [] σ')
    | [jc, ml, 4, h] => bdY (Rf (jc, 0, largs ml acc, [], σ)) (fun x σ' => K rest L (.inr (.inl x) :: S) σ') (fun σ' => K (dropTo rest h) L [] σ')
    | _ => none) else none
def mload1 (K : mK) (rest : List mE) (L : List (Option mV)) (S : List mV) (σ : mS) (i : Nat) : Option mR := match lget L i with
  | some (.inl x) => K rest L (.inl x :: S) σ
  | _ => none
def mload2 (K : mK) (rest : List mE) (L : List (Option mV)) (S : List mV) (σ : mS) (i : Nat) : Option mR := match lget L i with
  | some (.inr (.inl x)) => K rest L (.inr (.inl x) :: S) σ
  | _ => none
def mload3 (K : mK) (rest : List mE) (L : List (Option mV)) (S : List mV) (σ : mS) (i : Nat) : Option mR := match lget L i with
  | some (.inr (.inr x)) => K rest L (.inr (.inr x) :: S) σ
  | _ => none
def mstore1 (K : mK) (rest : List mE) (L : List (Option mV)) (S : List mV) (σ : mS) (i : Nat) : Option mR := match S with
  | .inl x :: S => K rest (lput L i (.inl x)) S σ
  | _ => none
def mstore2 (K : mK) (rest : List mE) (L : List (Option mV)) (S : List mV) (σ : mS) (i : Nat) : Option mR := match S with
  | .inr (.inl x) :: S => K rest (lputL L i (.inr (.inl x))) S σ
  | _ => none
def mstore3 (K : mK) (rest : List mE) (L : List (Option mV)) (S : List mV) (σ : mS) (i : Nat) : Option mR := match S with
  | .inr (.inr x) :: S => K rest (lput L i (.inr (.inr x))) S σ
  | _ => none
def mii (K : mK) (rest : List mE) (L : List (Option mV)) (S : List mV) (σ : mS) (g : Int32 → Int32 → Int32) : Option mR := match S with
  | .inl y :: .inl x :: S => K rest L (.inl (g x y) :: S) σ
  | _ => none
def mll (K : mK) (rest : List mE) (L : List (Option mV)) (S : List mV) (σ : mS) (g : Int64 → Int64 → Int64) : Option mR := match S with
  | .inr (.inl y) :: .inr (.inl x) :: S => K rest L (.inr (.inl (g x y)) :: S) σ
  | _ => none
/-- a constant by its number, where it is none below 0 -/
def mcon (info : List Nat) (x : Int32) : mV := match info with
  | n :: _ => .inl (nI n)
  | [] => .inl x
def mconL (info : List Nat) : mV := match info with
  | n :: _ => .inr (.inl (lN n))
  | [] => .inr (.inl 0)
def ml1 (S : List mV) (k : Int32 → Int32 → List mV → Option mR) : Option mR := match S with
  | .inl y :: .inl x :: S => k x y S
  | _ => none
def ml0 (S : List mV) (k : Int32 → List mV → Option mR) : Option mR := match S with
  | .inl x :: S => k x S
  | _ => none
def mstepA (Rf : mQ → Option mR) (j : Nat) (K : mK) (e : mE) (rest : List mE) (L : List (Option mV)) (S : List mV) (σ : mS) : Option mR := match e.2.1 with
  | .iload_n k => mload1 K rest L S σ k.val
  | .iload k => mload1 K rest L S σ k
  | .lload_n k => mload2 K rest L S σ k.val
  | .lload k => mload2 K rest L S σ k
  | .aload_n k => mload3 K rest L S σ k.val
  | .aload k => mload3 K rest L S σ k
  | .istore_n k => mstore1 K rest L S σ k.val
  | .istore k => mstore1 K rest L S σ k
  | .lstore_n k => mstore2 K rest L S σ k.val
  | .lstore k => mstore2 K rest L S σ k
  | .astore_n k => mstore3 K rest L S σ k.val
  | .astore k => mstore3 K rest L S σ k
  | .iconst c => K rest L (mcon e.2.2.2.1 (Int32.ofInt c) :: S) σ
  | .bipush c => K rest L (mcon e.2.2.2.1 ((Int8.ofInt c).toInt32) :: S) σ
  | .sipush c => K rest L (mcon e.2.2.2.1 ((Int16.ofInt c).toInt32) :: S) σ
  | .ldc _ => K rest L (mcon e.2.2.2.1 0 :: S) σ
  | .ldc_w _ => K rest L (mcon e.2.2.2.1 0 :: S) σ
  | .ldc2_w _ => K rest L (mconL e.2.2.2.1 :: S) σ
  | .lconst _ => K rest L (mconL e.2.2.2.1 :: S) σ
  | .iinc k c => (match lget L k with
    | some (.inl x) => K rest (lset L k (some (.inl (x + Int32.ofInt c)))) S σ
    | _ => none)
  | .iadd => mii K rest L S σ (fun x y => x + y)
  | .isub => mii K rest L S σ (fun x y => x - y)
  | .imul => mii K rest L S σ (fun x y => x * y)
  | .iand => mii K rest L S σ (fun x y => x &&& y)
  | .ior => mii K rest L S σ (fun x y => x ||| y)
  | .ishl => mii K rest L S σ (fun x y => x <<< (y &&& 31))
  | .ishr => mii K rest L S σ (fun x y => x >>> (y &&& 31))
  | .iushr => mii K rest L S σ (fun x y => (x.toUInt32 >>> (y.toUInt32 &&& Int32.toUInt32 31)).toInt32)
  | .idiv => ml1 S (fun x y S => if y = 0 then none else K rest L (.inl (x / y) :: S) σ)
  | .irem => ml1 S (fun x y S => if y = 0 then none else K rest L (.inl (x - x / y * y) :: S) σ)
  | .ladd => mll K rest L S σ (fun x y => x + y)
  | .lmul => mll K rest L S σ (fun x y => x * y)
  | .ldiv => (match S with
    | .inr (.inl y) :: .inr (.inl x) :: S => if y = 0 then none else K rest L (.inr (.inl (x / y)) :: S) σ
    | _ => none)
  | .lrem => (match S with
    | .inr (.inl y) :: .inr (.inl x) :: S => if y = 0 then none else K rest L (.inr (.inl (x - x / y * y)) :: S) σ
    | _ => none)
  | .lcmp => (match S with
    | .inr (.inl y) :: .inr (.inl x) :: S => K rest L (.inl (lg_cmp x y) :: S) σ
    | _ => none)
  | .i2l => ml0 S (fun x S => K rest L (.inr (.inl x.toInt64) :: S) σ)
  | .i2b => ml0 S (fun x S => K rest L (.inl x.toInt8.toInt32 :: S) σ)
  | .i2s => ml0 S (fun x S => K rest L (.inl x.toInt16.toInt32 :: S) σ)
  | .dup => (match S with
    | .inl x :: S => K rest L (.inl x :: .inl x :: S) σ
    | .inr (.inr x) :: S => K rest L (.inr (.inr x) :: .inr (.inr x) :: S) σ
    | _ => none)
  | .dup_x1 => (match S with
    | .inl x :: .inr (.inr o) :: S => K rest L (.inl x :: .inr (.inr o) :: .inl x :: S) σ
    | _ => none)
  | .dup2 => (match S with
    | .inl x :: .inr (.inr o) :: S => K rest L (.inl x :: .inr (.inr o) :: .inl x :: .inr (.inr o) :: S) σ
    | _ => none)
  | .pop => (match S with
    | .inl _ :: S => K rest L S σ
    | .inr (.inr _) :: S => K rest L S σ
    | _ => none)
  | .goto _ => mjump Rf j K rest e.2.2.2.1 L S σ
  | .if_icmp .eq _ => ml1 S (fun x y S => if x = y then mjump Rf j K rest e.2.2.2.1 L S σ else K rest L S σ)
  | .if_icmp .ne _ => ml1 S (fun x y S => if x = y then K rest L S σ else mjump Rf j K rest e.2.2.2.1 L S σ)
  | .if_icmp .lt _ => ml1 S (fun x y S => if x < y then mjump Rf j K rest e.2.2.2.1 L S σ else K rest L S σ)
  | .if_icmp .ge _ => ml1 S (fun x y S => if x < y then K rest L S σ else mjump Rf j K rest e.2.2.2.1 L S σ)
  | .if_icmp .gt _ => ml1 S (fun x y S => if y < x then mjump Rf j K rest e.2.2.2.1 L S σ else K rest L S σ)
  | .if_icmp .le _ => ml1 S (fun x y S => if y < x then K rest L S σ else mjump Rf j K rest e.2.2.2.1 L S σ)
  | .ifCond .eq _ => ml0 S (fun x S => if x = 0 then mjump Rf j K rest e.2.2.2.1 L S σ else K rest L S σ)
  | .ifCond .ne _ => ml0 S (fun x S => if x = 0 then K rest L S σ else mjump Rf j K rest e.2.2.2.1 L S σ)
  | .ifCond .lt _ => ml0 S (fun x S => if x < 0 then mjump Rf j K rest e.2.2.2.1 L S σ else K rest L S σ)
  | .ifCond .ge _ => ml0 S (fun x S => if x < 0 then K rest L S σ else mjump Rf j K rest e.2.2.2.1 L S σ)
  | .ifCond .gt _ => ml0 S (fun x S => if 0 < x then mjump Rf j K rest e.2.2.2.1 L S σ else K rest L S σ)
  | .ifCond .le _ => ml0 S (fun x S => if 0 < x then K rest L S σ else mjump Rf j K rest e.2.2.2.1 L S σ)
  | .tableswitch .. => ml0 S (fun x S => match e.2.2.2.1 with
    | d :: ts => mswitch x (fun t => K (dropTo rest t) L S σ) d 0 ts
    | [] => none)
  | _ => none
def mstepB (Rf : mQ → Option mR) (K : mK) (e : mE) (rest : List mE) (L : List (Option mV)) (S : List mV) (σ : mS) : Option mR := match e.2.1 with
  | .getfield _ => (match S, e.2.2.2.1 with
    | .inr (.inr o) :: S, [ci, f] => bif Nat.beq o.1 ci then (match kFld f o with
      | some o' => K rest L (.inr (.inr o') :: S) σ
      | none => K rest L (.inl (σ.1 o f) :: S) σ) else none
    | _, _ => none)
  | .putfield _ => (match S, e.2.2.2.1 with
    | .inl x :: .inr (.inr o) :: S, [ci, f] => bif Nat.beq o.1 ci then K rest L S (st σ o f x) else none
    | .inl x :: .inr (.inr o) :: S, [ci, f, _] => bif Nat.beq o.1 ci then (if x = 0 ∨ x = 1 then K rest L S (st σ o f x) else none) else none
    | _, _ => none)
  | .getstatic _ => (match e.2.2.2.1 with
    | [k] => K rest L (.inr (.inr (k, 0, 0, 0)) :: S) σ
    | _ => none)
  | .iaload => (match S with
    | .inl i :: .inr (.inr o) :: S => (match kRow o.1 with
      | (1, n) => if i < 0 ∨ n ≤ i.toNatClampNeg then none else K rest L (.inl (σ.1 o i.toNatClampNeg) :: S) σ
      | (7, n) => if i < 0 ∨ n ≤ i.toNatClampNeg then none else K rest L (.inl (σ.1 o i.toNatClampNeg) :: S) σ
      | (6, _) => if i < 0 ∨ (σ.1 (46, 0, 0, 1) 0).toNatClampNeg ≤ i.toNatClampNeg then none else K rest L (.inl (σ.1 o i.toNatClampNeg) :: S) σ
      | _ => none)
    | _ => none)
  | .baload => (match S with
    | .inl i :: .inr (.inr o) :: S => (match kRow o.1 with
      | (2, n) => if i < 0 ∨ n ≤ i.toNatClampNeg then none else K rest L (.inl (σ.1 o i.toNatClampNeg) :: S) σ
      | (3, n) => if i < 0 ∨ n ≤ i.toNatClampNeg then none else K rest L (.inl (σ.1 o i.toNatClampNeg) :: S) σ
      | _ => none)
    | _ => none)
  | .laload => (match S with
    | .inl i :: .inr (.inr o) :: S => (match kRow o.1 with
      | (4, n) => if i < 0 ∨ n ≤ i.toNatClampNeg then none else K rest L (.inr (.inl (σ.2 o i.toNatClampNeg)) :: S) σ
      | _ => none)
    | _ => none)
  | .aaload => (match S with
    | .inl i :: .inr (.inr o) :: S => (match kRow o.1 with
      | (5, n) => if i < 0 ∨ n ≤ i.toNatClampNeg then none else (match kEl i.toNatClampNeg o with
        | some o' => K rest L (.inr (.inr o') :: S) σ
        | none => none)
      | _ => none)
    | _ => none)
  | .iastore => (match S with
    | .inl x :: .inl i :: .inr (.inr o) :: S => (match kRow o.1 with
      | (1, n) => if i < 0 ∨ n ≤ i.toNatClampNeg then none else K rest L S (st σ o i.toNatClampNeg x)
      | _ => none)
    | _ => none)
  | .bastore => (match S with
    | .inl x :: .inl i :: .inr (.inr o) :: S => (match kRow o.1 with
      | (2, n) => if i < 0 ∨ n ≤ i.toNatClampNeg then none else K rest L S (st σ o i.toNatClampNeg x.toInt8.toInt32)
      | (3, n) => if i < 0 ∨ n ≤ i.toNatClampNeg then none else (if x = 0 ∨ x = 1 then K rest L S (st σ o i.toNatClampNeg x) else none)
      | _ => none)
    | _ => none)
  | .lastore => (match S with
    | .inr (.inl x) :: .inl i :: .inr (.inr o) :: S => (match kRow o.1 with
      | (4, n) => if i < 0 ∨ n ≤ i.toNatClampNeg then none else K rest L S (stL σ o i.toNatClampNeg x)
      | _ => none)
    | _ => none)
  | .arraylength => (match S with
    | .inr (.inr o) :: S => (match kRow o.1 with
      | (1, n) => K rest L (.inl (nI n) :: S) σ
      | (6, _) => K rest L (.inl (σ.1 (46, 0, 0, 1) 0) :: S) σ
      | _ => none)
    | _ => none)
  | .invokevirtual _ => (match e.2.2.2.1 with
    | n :: k :: info => mcall Rf K rest info L σ k n [] S
    | _ => none)
  | .invokestatic _ => (match e.2.2.2.1 with
    | [1000] => ml1 S (fun x y S => bif Nat.ble (swords S) 8 then K rest L (.inl (if x < y then y else x) :: S) σ else none)
    | [1001] => ml1 S (fun x y S => bif Nat.ble (swords S) 8 then K rest L (.inl (if y < x then y else x) :: S) σ else none)
    | [1002] => (match S with
      | .inl n :: .inl p2 :: .inr (.inr o2) :: .inl p1 :: .inr (.inr o1) :: S => (match kRow o1.1, kRow o2.1 with
        | (1, n1), (1, n2) => bif Nat.ble (swords S) 8 then if n < 0 ∨ p1 < 0 ∨ p2 < 0 ∨ n1 < p1.toNatClampNeg + n.toNatClampNeg ∨ n2 < p2.toNatClampNeg + n.toNatClampNeg then none else K rest L S (stC σ o1 p1.toNatClampNeg o2 p2.toNatClampNeg n.toNatClampNeg) else none
        | _, _ => none)
      | _ => none)
    | n :: info => mcall Rf K rest info L σ 1000 n [] S
    | [] => none)
  | .ireturn => (match S, e.2.2.2.1 with
    | [.inl x], [] => some (some (some (.inl x)), σ)
    | [.inl x], _ => if x = 0 ∨ x = 1 then some (some (some (.inl x)), σ) else none
    | _, _ => none)
  | .lreturn => (match S with
    | [.inr (.inl x)] => some (some (some (.inr (.inl x))), σ)
    | _ => none)
  | .return_ => (match S with
    | [] => some (some none, σ)
    | _ => none)
  | .new _ => (match S with
    | [] => some (none, σ)
    | _ => none)
  | _ => none
/-- 0: of the first table, else of the second -/
def mGrp (i : Jvm.ClassFile.Instr) : Bool := match i with
  | .getfield _ | .putfield _ | .getstatic _ | .iaload | .baload | .laload | .aaload | .iastore | .bastore | .lastore | .arraylength | .invokevirtual _ | .invokestatic _ | .ireturn | .lreturn | .return_ | .new _ => true
  | _ => false
def goF (Rf : mQ → Option mR) (j : Nat) (k : mK) : mK := fun rest L S σ => match rest with
  | [] => none
  | e :: r => match e.2.2.2.2 with
    | [] => k (e :: r) L S σ
    | c :: M => Rf (j, e.1, lmask (c :: M) L, S, σ)
def stepN (Rf : mQ → Option mR) (j : Nat) : Nat → mK
  | 0, _, _, _, _ => none
  | _ + 1, [], _, _, _ => none
  | n + 1, e :: rest, L, S, σ => bif mGrp e.2.1 then mstepB Rf (goF Rf j (stepN Rf j n)) e rest L S σ else mstepA Rf j (goF Rf j (stepN Rf j n)) e rest L S σ
def mblockOf (code : Nat → List mE) (Rf : mQ → Option mR) (q : mQ) : Option mR := stepN Rf q.1 400 (dropTo (code q.1) q.2.1) q.2.2.1 q.2.2.2.1 q.2.2.2.2
