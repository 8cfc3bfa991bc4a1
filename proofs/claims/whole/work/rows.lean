section
/-! A small machine over named objects: the objects of class, reference and law are a fixed tree; only whole numbers in them change. -/
abbrev mO : Type := Nat × Nat × Nat × Nat
abbrev mV : Type := Int32 ⊕ (Int64 ⊕ mO)
abbrev mS : Type := (mO → Nat → Int32) × (mO → Nat → Int64)
abbrev mR : Type := Option (Option mV) × mS
abbrev mQ : Type := Nat × Nat × List (Option mV) × List mV × mS
abbrev mE : Type := Nat × Jvm.ClassFile.Instr × Nat × List Nat × List Nat
abbrev mK : Type := List mE → List (Option mV) → List mV → mS → Option mR
def lget : List (Option mV) → Nat → Option mV
  | [], _ => none
  | v :: _, 0 => v
  | _ :: L, i + 1 => lget L i
def lset : List (Option mV) → Nat → Option mV → List (Option mV)
  | [], _, _ => []
  | _ :: L, 0, w => w :: L
  | v :: L, i + 1, w => v :: lset L i w
def lwipe (L : List (Option mV)) (i : Nat) : List (Option mV) := match lget L i with
  | some (.inr (.inl _)) => lset L i none
  | _ => L
def lput (L : List (Option mV)) (i : Nat) (v : mV) : List (Option mV) := match i with
  | 0 => lset L 0 (some v)
  | k + 1 => lset (lwipe L k) (k + 1) (some v)
def lputL (L : List (Option mV)) (i : Nat) (v : mV) : List (Option mV) := lset (lput L i v) (i + 1) none
def lmask : List Nat → List (Option mV) → List (Option mV)
  | 0 :: M, _ :: L => none :: lmask M L
  | _ :: M, v :: L => v :: lmask M L
  | _, _ => []
def dropTo : List mE → Nat → List mE
  | [], _ => []
  | e :: r, t => bif Nat.beq e.1 t then e :: r else dropTo r t
/-- a whole number of an object changes -/
def st (σ : mS) (o : mO) (i : Nat) (v : Int32) : mS := (fun o' i' => if o' = o ∧ i' = i then v else σ.1 o' i', σ.2)
def stL (σ : mS) (o : mO) (i : Nat) (v : Int64) : mS := (σ.1, fun o' i' => if o' = o ∧ i' = i then v else σ.2 o' i')
/-- a run of numbers of one row comes into another -/
def stC (σ : mS) (o1 : mO) (p1 : Nat) (o2 : mO) (p2 n : Nat) : mS := (fun o' i' => if o' = o2 ∧ p2 ≤ i' ∧ i' < p2 + n then σ.1 o1 (p1 + (i' - p2)) else σ.1 o' i', σ.2)
/-- kinds of rows: 1 int, 2 byte, 3 boolean, 4 long, 5 references, 6 the script, 7 a static row -/
def kRow (k : Nat) : Nat × Nat := match k with
  | 11 => (1, 12) | 12 => (5, 6) | 13 => (5, 4) | 14 => (1, 40) | 15 => (1, 9) | 16 => (1, 6) | 17 => (1, 6) | 18 => (1, 6) | 19 => (1, 6)
  | 20 => (5, 6) | 21 => (5, 2) | 22 => (3, 2) | 23 => (1, 80) | 24 => (4, 16) | 25 => (1, 36)
  | 30 => (1, 1432) | 31 => (2, 80) | 32 => (4, 40) | 33 => (1, 36) | 34 => (1, 6) | 35 => (1, 6) | 36 => (1, 1432) | 37 => (1, 400) | 38 => (1, 8592) | 39 => (1, 1432) | 40 => (1, 2864) | 41 => (3, 2)
  | 45 => (4, 1) | 46 => (6, 0)
  | 50 => (7, 12) | 51 => (7, 12) | 52 => (7, 13)
  | _ => (0, 0)
/-- the object in a field: of classes 0 Air, 3 Had, 4 Numbers, 5 Past, 6 Queue, 7 Signs, 8 Station, 9 SharedAir, 10 the reference -/
def kFld (f : Nat) (o : mO) : Option mO := match o with
  | (0, a, _, _) => (match f with | 0 => some (11, a, 0, 0) | 1 => some (1, a, 0, 0) | 2 => some (12, a, 0, 0) | _ => none)
  | (3, a, s, _) => (match f with | 0 => some (15, a, s, 0) | 1 => some (16, a, s, 0) | _ => none)
  | (4, _, _, _) => (match f with | 0 => some (24, 0, 0, 0) | _ => none)
  | (5, _, _, _) => (match f with | 0 => some (20, 0, 0, 0) | _ => none)
  | (6, a, s, r) => (match f with | 0 => some (14, a, s, r) | _ => none)
  | (7, _, _, _) => (match f with | 0 => some (23, 0, 0, 0) | _ => none)
  | (8, a, s, _) => (match f with | 0 => some (13, a, s, 0) | 1 => some (2, a, s, 0) | 2 => some (3, a, s, 0) | 3 => some (17, a, s, 0) | 4 => some (18, a, s, 0) | 5 => some (19, a, s, 0) | _ => none)
  | (9, _, _, _) => (match f with | 0 => some (0, 0, 0, 0) | 1 => some (0, 1, 0, 0) | 2 => some (1, 10, 0, 0) | 3 => some (5, 0, 0, 0) | 4 => some (21, 0, 0, 0) | 5 => some (22, 0, 0, 0) | 6 => some (7, 0, 0, 0) | 7 => some (4, 0, 0, 0) | 8 => some (25, 0, 0, 0) | _ => none)
  | (10, _, _, _) => (match f with | 0 => some (30, 0, 0, 0) | 1 => some (31, 0, 0, 0) | 3 => some (32, 0, 0, 0) | 9 => some (33, 0, 0, 0) | 10 => some (34, 0, 0, 0) | 11 => some (35, 0, 0, 0) | 13 => some (36, 0, 0, 0) | 14 => some (37, 0, 0, 0) | 15 => some (38, 0, 0, 0) | 16 => some (39, 0, 0, 0) | 19 => some (40, 0, 0, 0) | 20 => some (41, 0, 0, 0) | _ => none)
  | _ => none
def kEl (i : Nat) (o : mO) : Option mO := match o with
  | (12, a, _, _) => some (8, a, i, 0)
  | (13, a, s, _) => some (6, a, s, i)
  | (20, _, _, _) => some (0, 4 + i, 0, 0)
  | (21, _, _, _) => some (0, 2 + i, 0, 0)
  | _ => none
def bdV (r : Option mR) (k : mS → Option mR) : Option mR := match r with
  | some (some none, σ) => k σ
  | _ => none
def bdI (r : Option mR) (k : Int32 → mS → Option mR) : Option mR := match r with
  | some (some (some (.inl x)), σ) => k x σ
  | _ => none
def bdL (r : Option mR) (k : Int64 → mS → Option mR) : Option mR := match r with
  | some (some (some (.inr (.inl x))), σ) => k x σ
  | _ => none
/-- a call that may throw, inside a try -/
def bdX (r : Option mR) (k : Int32 → mS → Option mR) (kx : mS → Option mR) : Option mR := match r with
  | some (some (some (.inl x)), σ) => k x σ
  | some (none, σ) => kx σ
  | _ => none
def bdY (r : Option mR) (k : Int64 → mS → Option mR) (kx : mS → Option mR) : Option mR := match r with
  | some (some (some (.inr (.inl x))), σ) => k x σ
  | some (none, σ) => kx σ
  | _ => none
def largs : Nat → List mV → List (Option mV)
  | 0, _ => []
  | n + 1, [] => none :: largs n []
  | 1, .inr (.inl _) :: _ => [none]
  | n + 2, .inr (.inl x) :: A => some (.inr (.inl x)) :: none :: largs n A
  | n + 1, v :: A => some v :: largs n A
def swords : List mV → Nat
  | [] => 0
  | .inr (.inl _) :: S => swords S + 2
  | _ :: S => swords S + 1
/-- a row of targets -/
def mswitch (x : Int32) (J : Nat → Option mR) (d : Nat) : Nat → List Nat → Option mR
  | _, [] => J d
  | k, t :: ts => if x = nI k then J t else mswitch x J d (k + 1) ts
/-- a jump: ahead, or to a named place -/
def mjump (Rf : mQ → Option mR) (j : Nat) (K : mK) (rest : List mE) (info : List Nat) (L : List (Option mV)) (S : List mV) (σ : mS) : Option mR := match info with
  | t :: 0 :: _ => K (dropTo rest t) L S σ
  | t :: _ :: M => Rf (j, t, lmask M L, S, σ)
  | _ => none
/-- a call: n values, the callee's number and size, what it answers (0 nothing, 1 int, 2 long; 3, 4: the same in a try, and the place behind its catch) -/
def mcall (Rf : mQ → Option mR) (K : mK) (rest : List mE) (info : List Nat) (L : List (Option mV)) (σ : mS) : Nat → List mV → List mV → Option mR
  | n + 1, acc, v :: S => mcall Rf K rest info L σ n (v :: acc) S
  | _ + 1, _, [] => none
  | 0, acc, S => bif Nat.ble (swords S) 8 then (match info with
    | [jc, ml, 0] => bdV (Rf (jc, 0, largs ml acc, [], σ)) (fun σ' => K rest L S σ')
    | [jc, ml, 1] => bdI (Rf (jc, 0, largs ml acc, [], σ)) (fun x σ' => K rest L (.inl x :: S) σ')
    | [jc, ml, 2] => bdL (Rf (jc, 0, largs ml acc, [], σ)) (fun x σ' => K rest L (.inr (.inl x) :: S) σ')
    | [jc, ml, 3, h] => bdX (Rf (jc, 0, largs ml acc, [], σ)) (fun x σ' => K rest L (.inl x :: S) σ') (fun σ' => K (dropTo rest h) L [] σ')
    | [jc, ml, 4, h] => bdY (Rf (jc, 0, largs ml acc, [], σ)) (fun x σ' => K rest L (.inr (.inl x) :: S) σ') (fun σ' => K (dropTo rest h) L [] σ')
    | _ => none) else none
def mload1 (K : mK) (rest : List mE) (L : List (Option mV)) (S : List mV) (σ : mS) (i : Nat) : Option mR := match lget L i with
  | some (.inl x) => K rest L (.inl x :: S) σ
  | _ => none
def mload2 (K : mK) (rest : List mE) (L : List (Option mV)) (S : List mV) (σ : mS) (i : Nat) : Option mR := match lget L i with
  | some (.inr (.inl x)) => K rest L (.inr (.inl x) :: S) σ
  | _ => none
def mload3 (K : mK) (rest : List mE) (L : List (Option mV)) (S : List mV) (σ : mS) (i : Nat) : Option mR := match lget L i with
  | some (.inr (.inr x)) => K rest L (.inr (.inr x) :: S) σ
  | _ => none
def mstore1 (K : mK) (rest : List mE) (L : List (Option mV)) (S : List mV) (σ : mS) (i : Nat) : Option mR := match S with
  | .inl x :: S => K rest (lput L i (.inl x)) S σ
  | _ => none
def mstore2 (K : mK) (rest : List mE) (L : List (Option mV)) (S : List mV) (σ : mS) (i : Nat) : Option mR := match S with
  | .inr (.inl x) :: S => K rest (lputL L i (.inr (.inl x))) S σ
  | _ => none
def mstore3 (K : mK) (rest : List mE) (L : List (Option mV)) (S : List mV) (σ : mS) (i : Nat) : Option mR := match S with
  | .inr (.inr x) :: S => K rest (lput L i (.inr (.inr x))) S σ
  | _ => none
def mii (K : mK) (rest : List mE) (L : List (Option mV)) (S : List mV) (σ : mS) (g : Int32 → Int32 → Int32) : Option mR := match S with
  | .inl y :: .inl x :: S => K rest L (.inl (g x y) :: S) σ
  | _ => none
def mll (K : mK) (rest : List mE) (L : List (Option mV)) (S : List mV) (σ : mS) (g : Int64 → Int64 → Int64) : Option mR := match S with
  | .inr (.inl y) :: .inr (.inl x) :: S => K rest L (.inr (.inl (g x y)) :: S) σ
  | _ => none
/-- a constant by its number, where it is none below 0 -/
def mcon (info : List Nat) (x : Int32) : mV := match info with
  | n :: _ => .inl (nI n)
  | [] => .inl x
def mconL (info : List Nat) : mV := match info with
  | n :: _ => .inr (.inl (lN n))
  | [] => .inr (.inl 0)
def ml1 (S : List mV) (k : Int32 → Int32 → List mV → Option mR) : Option mR := match S with
  | .inl y :: .inl x :: S => k x y S
  | _ => none
def ml0 (S : List mV) (k : Int32 → List mV → Option mR) : Option mR := match S with
  | .inl x :: S => k x S
  | _ => none
def mstepA (Rf : mQ → Option mR) (j : Nat) (K : mK) (e : mE) (rest : List mE) (L : List (Option mV)) (S : List mV) (σ : mS) : Option mR := match e.2.1 with
  | .iload_n k => mload1 K rest L S σ k.val
  | .iload k => mload1 K rest L S σ k
  | .lload_n k => mload2 K rest L S σ k.val
  | .lload k => mload2 K rest L S σ k
  | .aload_n k => mload3 K rest L S σ k.val
  | .aload k => mload3 K rest L S σ k
  | .istore_n k => mstore1 K rest L S σ k.val
  | .istore k => mstore1 K rest L S σ k
  | .lstore_n k => mstore2 K rest L S σ k.val
  | .lstore k => mstore2 K rest L S σ k
  | .astore_n k => mstore3 K rest L S σ k.val
  | .astore k => mstore3 K rest L S σ k
  | .iconst c => K rest L (mcon e.2.2.2.1 (Int32.ofInt c) :: S) σ
  | .bipush c => K rest L (mcon e.2.2.2.1 ((Int8.ofInt c).toInt32) :: S) σ
  | .sipush c => K rest L (mcon e.2.2.2.1 ((Int16.ofInt c).toInt32) :: S) σ
  | .ldc _ => K rest L (mcon e.2.2.2.1 0 :: S) σ
  | .ldc_w _ => K rest L (mcon e.2.2.2.1 0 :: S) σ
  | .ldc2_w _ => K rest L (mconL e.2.2.2.1 :: S) σ
  | .lconst _ => K rest L (mconL e.2.2.2.1 :: S) σ
  | .iinc k c => (match lget L k with
    | some (.inl x) => K rest (lset L k (some (.inl (x + Int32.ofInt c)))) S σ
    | _ => none)
  | .iadd => mii K rest L S σ (fun x y => x + y)
  | .isub => mii K rest L S σ (fun x y => x - y)
  | .imul => mii K rest L S σ (fun x y => x * y)
  | .iand => mii K rest L S σ (fun x y => x &&& y)
  | .ior => mii K rest L S σ (fun x y => x ||| y)
  | .ishl => mii K rest L S σ (fun x y => x <<< (y &&& 31))
  | .ishr => mii K rest L S σ (fun x y => x >>> (y &&& 31))
  | .iushr => mii K rest L S σ (fun x y => (x.toUInt32 >>> (y.toUInt32 &&& Int32.toUInt32 31)).toInt32)
  | .idiv => ml1 S (fun x y S => if y = 0 then none else K rest L (.inl (x / y) :: S) σ)
  | .irem => ml1 S (fun x y S => if y = 0 then none else K rest L (.inl (x - x / y * y) :: S) σ)
  | .ladd => mll K rest L S σ (fun x y => x + y)
  | .lmul => mll K rest L S σ (fun x y => x * y)
  | .ldiv => (match S with
    | .inr (.inl y) :: .inr (.inl x) :: S => if y = 0 then none else K rest L (.inr (.inl (x / y)) :: S) σ
    | _ => none)
  | .lrem => (match S with
    | .inr (.inl y) :: .inr (.inl x) :: S => if y = 0 then none else K rest L (.inr (.inl (x - x / y * y)) :: S) σ
    | _ => none)
  | .lcmp => (match S with
    | .inr (.inl y) :: .inr (.inl x) :: S => K rest L (.inl (lg_cmp x y) :: S) σ
    | _ => none)
  | .i2l => ml0 S (fun x S => K rest L (.inr (.inl x.toInt64) :: S) σ)
  | .i2b => ml0 S (fun x S => K rest L (.inl x.toInt8.toInt32 :: S) σ)
  | .i2s => ml0 S (fun x S => K rest L (.inl x.toInt16.toInt32 :: S) σ)
  | .dup => (match S with
    | .inl x :: S => K rest L (.inl x :: .inl x :: S) σ
    | .inr (.inr x) :: S => K rest L (.inr (.inr x) :: .inr (.inr x) :: S) σ
    | _ => none)
  | .dup_x1 => (match S with
    | .inl x :: .inr (.inr o) :: S => K rest L (.inl x :: .inr (.inr o) :: .inl x :: S) σ
    | _ => none)
  | .dup2 => (match S with
    | .inl x :: .inr (.inr o) :: S => K rest L (.inl x :: .inr (.inr o) :: .inl x :: .inr (.inr o) :: S) σ
    | _ => none)
  | .pop => (match S with
    | .inl _ :: S => K rest L S σ
    | .inr (.inr _) :: S => K rest L S σ
    | _ => none)
  | .goto _ => mjump Rf j K rest e.2.2.2.1 L S σ
  | .if_icmp .eq _ => ml1 S (fun x y S => if x = y then mjump Rf j K rest e.2.2.2.1 L S σ else K rest L S σ)
  | .if_icmp .ne _ => ml1 S (fun x y S => if x = y then K rest L S σ else mjump Rf j K rest e.2.2.2.1 L S σ)
  | .if_icmp .lt _ => ml1 S (fun x y S => if x < y then mjump Rf j K rest e.2.2.2.1 L S σ else K rest L S σ)
  | .if_icmp .ge _ => ml1 S (fun x y S => if x < y then K rest L S σ else mjump Rf j K rest e.2.2.2.1 L S σ)
  | .if_icmp .gt _ => ml1 S (fun x y S => if y < x then mjump Rf j K rest e.2.2.2.1 L S σ else K rest L S σ)
  | .if_icmp .le _ => ml1 S (fun x y S => if y < x then K rest L S σ else mjump Rf j K rest e.2.2.2.1 L S σ)
  | .ifCond .eq _ => ml0 S (fun x S => if x = 0 then mjump Rf j K rest e.2.2.2.1 L S σ else K rest L S σ)
  | .ifCond .ne _ => ml0 S (fun x S => if x = 0 then K rest L S σ else mjump Rf j K rest e.2.2.2.1 L S σ)
  | .ifCond .lt _ => ml0 S (fun x S => if x < 0 then mjump Rf j K rest e.2.2.2.1 L S σ else K rest L S σ)
  | .ifCond .ge _ => ml0 S (fun x S => if x < 0 then K rest L S σ else mjump Rf j K rest e.2.2.2.1 L S σ)
  | .ifCond .gt _ => ml0 S (fun x S => if 0 < x then mjump Rf j K rest e.2.2.2.1 L S σ else K rest L S σ)
  | .ifCond .le _ => ml0 S (fun x S => if 0 < x then K rest L S σ else mjump Rf j K rest e.2.2.2.1 L S σ)
  | .tableswitch .. => ml0 S (fun x S => match e.2.2.2.1 with
    | d :: ts => mswitch x (fun t => K (dropTo rest t) L S σ) d 0 ts
    | [] => none)
  | _ => none
def mstepB (Rf : mQ → Option mR) (K : mK) (e : mE) (rest : List mE) (L : List (Option mV)) (S : List mV) (σ : mS) : Option mR := match e.2.1 with
  | .getfield _ => (match S, e.2.2.2.1 with
    | .inr (.inr o) :: S, [ci, f] => bif Nat.beq o.1 ci then (match kFld f o with
      | some o' => K rest L (.inr (.inr o') :: S) σ
      | none => K rest L (.inl (σ.1 o f) :: S) σ) else none
    | _, _ => none)
  | .putfield _ => (match S, e.2.2.2.1 with
    | .inl x :: .inr (.inr o) :: S, [ci, f] => bif Nat.beq o.1 ci then K rest L S (st σ o f x) else none
    | .inl x :: .inr (.inr o) :: S, [ci, f, _] => bif Nat.beq o.1 ci then (if x = 0 ∨ x = 1 then K rest L S (st σ o f x) else none) else none
    | _, _ => none)
  | .getstatic _ => (match e.2.2.2.1 with
    | [k] => K rest L (.inr (.inr (k, 0, 0, 0)) :: S) σ
    | _ => none)
  | .iaload => (match S with
    | .inl i :: .inr (.inr o) :: S => (match kRow o.1 with
      | (1, n) => if i < 0 ∨ n ≤ i.toNatClampNeg then none else K rest L (.inl (σ.1 o i.toNatClampNeg) :: S) σ
      | (7, n) => if i < 0 ∨ n ≤ i.toNatClampNeg then none else K rest L (.inl (σ.1 o i.toNatClampNeg) :: S) σ
      | (6, _) => if i < 0 ∨ (σ.1 (46, 0, 0, 1) 0).toNatClampNeg ≤ i.toNatClampNeg then none else K rest L (.inl (σ.1 o i.toNatClampNeg) :: S) σ
      | _ => none)
    | _ => none)
  | .baload => (match S with
    | .inl i :: .inr (.inr o) :: S => (match kRow o.1 with
      | (2, n) => if i < 0 ∨ n ≤ i.toNatClampNeg then none else K rest L (.inl (σ.1 o i.toNatClampNeg) :: S) σ
      | (3, n) => if i < 0 ∨ n ≤ i.toNatClampNeg then none else K rest L (.inl (σ.1 o i.toNatClampNeg) :: S) σ
      | _ => none)
    | _ => none)
  | .laload => (match S with
    | .inl i :: .inr (.inr o) :: S => (match kRow o.1 with
      | (4, n) => if i < 0 ∨ n ≤ i.toNatClampNeg then none else K rest L (.inr (.inl (σ.2 o i.toNatClampNeg)) :: S) σ
      | _ => none)
    | _ => none)
  | .aaload => (match S with
    | .inl i :: .inr (.inr o) :: S => (match kRow o.1 with
      | (5, n) => if i < 0 ∨ n ≤ i.toNatClampNeg then none else (match kEl i.toNatClampNeg o with
        | some o' => K rest L (.inr (.inr o') :: S) σ
        | none => none)
      | _ => none)
    | _ => none)
  | .iastore => (match S with
    | .inl x :: .inl i :: .inr (.inr o) :: S => (match kRow o.1 with
      | (1, n) => if i < 0 ∨ n ≤ i.toNatClampNeg then none else K rest L S (st σ o i.toNatClampNeg x)
      | _ => none)
    | _ => none)
  | .bastore => (match S with
    | .inl x :: .inl i :: .inr (.inr o) :: S => (match kRow o.1 with
      | (2, n) => if i < 0 ∨ n ≤ i.toNatClampNeg then none else K rest L S (st σ o i.toNatClampNeg x.toInt8.toInt32)
      | (3, n) => if i < 0 ∨ n ≤ i.toNatClampNeg then none else (if x = 0 ∨ x = 1 then K rest L S (st σ o i.toNatClampNeg x) else none)
      | _ => none)
    | _ => none)
  | .lastore => (match S with
    | .inr (.inl x) :: .inl i :: .inr (.inr o) :: S => (match kRow o.1 with
      | (4, n) => if i < 0 ∨ n ≤ i.toNatClampNeg then none else K rest L S (stL σ o i.toNatClampNeg x)
      | _ => none)
    | _ => none)
  | .arraylength => (match S with
    | .inr (.inr o) :: S => (match kRow o.1 with
      | (0, _) => none
      | (6, _) => K rest L (.inl (σ.1 (46, 0, 0, 1) 0) :: S) σ
      | (_, n) => K rest L (.inl (nI n) :: S) σ)
    | _ => none)
  | .invokevirtual _ => (match e.2.2.2.1 with
    | n :: info => mcall Rf K rest info L σ n [] S
    | [] => none)
  | .invokestatic _ => (match e.2.2.2.1 with
    | [1000] => ml1 S (fun x y S => K rest L (.inl (if x < y then y else x) :: S) σ)
    | [1001] => ml1 S (fun x y S => K rest L (.inl (if y < x then y else x) :: S) σ)
    | [1002] => (match S with
      | .inl n :: .inl p2 :: .inr (.inr o2) :: .inl p1 :: .inr (.inr o1) :: S => (match kRow o1.1, kRow o2.1 with
        | (1, n1), (1, n2) => if n < 0 ∨ p1 < 0 ∨ p2 < 0 ∨ n1 < p1.toNatClampNeg + n.toNatClampNeg ∨ n2 < p2.toNatClampNeg + n.toNatClampNeg then none else K rest L S (stC σ o1 p1.toNatClampNeg o2 p2.toNatClampNeg n.toNatClampNeg)
        | (7, n1), (1, n2) => if n < 0 ∨ p1 < 0 ∨ p2 < 0 ∨ n1 < p1.toNatClampNeg + n.toNatClampNeg ∨ n2 < p2.toNatClampNeg + n.toNatClampNeg then none else K rest L S (stC σ o1 p1.toNatClampNeg o2 p2.toNatClampNeg n.toNatClampNeg)
        | _, _ => none)
      | _ => none)
    | n :: info => mcall Rf K rest info L σ n [] S
    | [] => none)
  | .ireturn => (match S, e.2.2.2.1 with
    | [.inl x], [] => some (some (some (.inl x)), σ)
    | [.inl x], _ => if x = 0 ∨ x = 1 then some (some (some (.inl x)), σ) else none
    | _, _ => none)
  | .lreturn => (match S with
    | [.inr (.inl x)] => some (some (some (.inr (.inl x))), σ)
    | _ => none)
  | .return_ => (match S with
    | [] => some (some none, σ)
    | _ => none)
  | .new _ => (match S with
    | [] => some (none, σ)
    | _ => none)
  | _ => none
/-- 0: of the first table, else of the second -/
def mGrp (i : Jvm.ClassFile.Instr) : Bool := match i with
  | .getfield _ | .putfield _ | .getstatic _ | .iaload | .baload | .laload | .aaload | .iastore | .bastore | .lastore | .arraylength | .invokevirtual _ | .invokestatic _ | .ireturn | .lreturn | .return_ | .new _ => true
  | _ => false
def goF (Rf : mQ → Option mR) (j : Nat) (k : mK) : mK := fun rest L S σ => match rest with
  | [] => none
  | e :: r => match e.2.2.2.2 with
    | [] => k (e :: r) L S σ
    | c :: M => Rf (j, e.1, lmask (c :: M) L, S, σ)
def stepN (Rf : mQ → Option mR) (j : Nat) : Nat → mK
  | 0, _, _, _, _ => none
  | _ + 1, [], _, _, _ => none
  | n + 1, e :: rest, L, S, σ => bif mGrp e.2.1 then mstepB Rf (goF Rf j (stepN Rf j n)) e rest L S σ else mstepA Rf j (goF Rf j (stepN Rf j n)) e rest L S σ
def mblockOf (code : Nat → List mE) (Rf : mQ → Option mR) (q : mQ) : Option mR := stepN Rf q.1 3000 (dropTo (code q.1) q.2.1) q.2.2.1 q.2.2.2.1 q.2.2.2.2
end
section
/-! What the small machine comes to: the least answers that its steps give (no counting of steps) -/
section FX
variable {Rf Rg : mQ → Option mR} {K K' : mK}
theorem bdV_mono {a a' : Option mR} {k k' : mS → Option mR} (ha : ∀ r, a = some r → a' = some r) (hk : ∀ s r, k s = some r → k' s = some r) : ∀ r, bdV a k = some r → bdV a' k' = some r := by
  intro r h
  unfold bdV at h
  split at h
  · rw [ha _ rfl]; exact hk _ _ h
  · cases h
theorem bdI_mono {a a' : Option mR} {k k' : Int32 → mS → Option mR} (ha : ∀ r, a = some r → a' = some r) (hk : ∀ x s r, k x s = some r → k' x s = some r) : ∀ r, bdI a k = some r → bdI a' k' = some r := by
  intro r h
  unfold bdI at h
  split at h
  · rw [ha _ rfl]; exact hk _ _ _ h
  · cases h
theorem bdL_mono {a a' : Option mR} {k k' : Int64 → mS → Option mR} (ha : ∀ r, a = some r → a' = some r) (hk : ∀ x s r, k x s = some r → k' x s = some r) : ∀ r, bdL a k = some r → bdL a' k' = some r := by
  intro r h
  unfold bdL at h
  split at h
  · rw [ha _ rfl]; exact hk _ _ _ h
  · cases h
theorem bdX_mono {a a' : Option mR} {k k' : Int32 → mS → Option mR} {kx kx' : mS → Option mR} (ha : ∀ r, a = some r → a' = some r) (hk : ∀ x s r, k x s = some r → k' x s = some r) (hx : ∀ s r, kx s = some r → kx' s = some r) : ∀ r, bdX a k kx = some r → bdX a' k' kx' = some r := by
  intro r h
  unfold bdX at h
  split at h
  · rw [ha _ rfl]; exact hk _ _ _ h
  · rw [ha _ rfl]; exact hx _ _ h
  · cases h
theorem bdY_mono {a a' : Option mR} {k k' : Int64 → mS → Option mR} {kx kx' : mS → Option mR} (ha : ∀ r, a = some r → a' = some r) (hk : ∀ x s r, k x s = some r → k' x s = some r) (hx : ∀ s r, kx s = some r → kx' s = some r) : ∀ r, bdY a k kx = some r → bdY a' k' kx' = some r := by
  intro r h
  unfold bdY at h
  split at h
  · rw [ha _ rfl]; exact hk _ _ _ h
  · rw [ha _ rfl]; exact hx _ _ h
  · cases h
theorem ml1_mono {S : List mV} {k k' : Int32 → Int32 → List mV → Option mR} (hk : ∀ x y S r, k x y S = some r → k' x y S = some r) : ∀ r, ml1 S k = some r → ml1 S k' = some r := by
  intro r h
  unfold ml1 at h ⊢
  split at h
  · exact hk _ _ _ _ h
  · cases h
theorem ml0_mono {S : List mV} {k k' : Int32 → List mV → Option mR} (hk : ∀ x S r, k x S = some r → k' x S = some r) : ∀ r, ml0 S k = some r → ml0 S k' = some r := by
  intro r h
  unfold ml0 at h ⊢
  split at h
  · exact hk _ _ _ h
  · cases h
theorem mswitch_mono {J J' : Nat → Option mR} {d : Nat} (hJ : ∀ t r, J t = some r → J' t = some r) : ∀ (ts : List Nat) (k : Nat) (x : Int32) r, mswitch x J d k ts = some r → mswitch x J' d k ts = some r
  | [], k, x, r, h => hJ _ _ h
  | t :: ts, k, x, r, h => by
    unfold mswitch at h ⊢
    by_cases q : x = nI k
    · rw [if_pos q] at h ⊢; exact hJ _ _ h
    · rw [if_neg q] at h ⊢; exact mswitch_mono hJ ts (k + 1) x r h
variable (hR : ∀ q r, Rf q = some r → Rg q = some r) (hK : ∀ a b c d r, K a b c d = some r → K' a b c d = some r)
theorem mjump_mono (hR : ∀ q r, Rf q = some r → Rg q = some r) (hK : ∀ a b c d r, K a b c d = some r → K' a b c d = some r) {j : Nat} {rest : List mE} {info : List Nat} {L : List (Option mV)} {S : List mV} {σ : mS} : ∀ r, mjump Rf j K rest info L S σ = some r → mjump Rg j K' rest info L S σ = some r := by
  intro r h
  unfold mjump at h ⊢
  split at h
  · exact hK _ _ _ _ _ h
  · exact hR _ _ h
  · cases h
theorem mcall_mono (hR : ∀ q r, Rf q = some r → Rg q = some r) (hK : ∀ a b c d r, K a b c d = some r → K' a b c d = some r) {rest : List mE} {info : List Nat} {L : List (Option mV)} {σ : mS} : ∀ (n : Nat) (acc S : List mV) r, mcall Rf K rest info L σ n acc S = some r → mcall Rg K' rest info L σ n acc S = some r
  | n + 1, acc, v :: S, r, h => by unfold mcall at h ⊢; exact mcall_mono hR hK n (v :: acc) S r h
  | n + 1, acc, [], r, h => by unfold mcall at h; cases h
  | 0, acc, S, r, h => by
    unfold mcall at h ⊢
    cases hb : Nat.ble (swords S) 8
    · rw [hb] at h; cases h
    · rw [hb] at h
      simp only [cond_true] at h ⊢
      split at h
      · exact bdV_mono (hR _) (fun _ _ q => hK _ _ _ _ _ q) _ h
      · exact bdI_mono (hR _) (fun _ _ _ q => hK _ _ _ _ _ q) _ h
      · exact bdL_mono (hR _) (fun _ _ _ q => hK _ _ _ _ _ q) _ h
      · exact bdX_mono (hR _) (fun _ _ _ q => hK _ _ _ _ _ q) (fun _ _ q => hK _ _ _ _ _ q) _ h
      · exact bdY_mono (hR _) (fun _ _ _ q => hK _ _ _ _ _ q) (fun _ _ q => hK _ _ _ _ _ q) _ h
      · cases h
theorem mld1_mono (hK : ∀ a b c d r, K a b c d = some r → K' a b c d = some r) {rest : List mE} {L : List (Option mV)} {S : List mV} {σ : mS} {i : Nat} : ∀ r, mload1 K rest L S σ i = some r → mload1 K' rest L S σ i = some r := by
  intro r h; unfold mload1 at h ⊢; split at h
  · exact hK _ _ _ _ _ h
  · cases h
theorem mld2_mono (hK : ∀ a b c d r, K a b c d = some r → K' a b c d = some r) {rest : List mE} {L : List (Option mV)} {S : List mV} {σ : mS} {i : Nat} : ∀ r, mload2 K rest L S σ i = some r → mload2 K' rest L S σ i = some r := by
  intro r h; unfold mload2 at h ⊢; split at h
  · exact hK _ _ _ _ _ h
  · cases h
theorem mld3_mono (hK : ∀ a b c d r, K a b c d = some r → K' a b c d = some r) {rest : List mE} {L : List (Option mV)} {S : List mV} {σ : mS} {i : Nat} : ∀ r, mload3 K rest L S σ i = some r → mload3 K' rest L S σ i = some r := by
  intro r h; unfold mload3 at h ⊢; split at h
  · exact hK _ _ _ _ _ h
  · cases h
theorem mst1_mono (hK : ∀ a b c d r, K a b c d = some r → K' a b c d = some r) {rest : List mE} {L : List (Option mV)} {S : List mV} {σ : mS} {i : Nat} : ∀ r, mstore1 K rest L S σ i = some r → mstore1 K' rest L S σ i = some r := by
  intro r h; unfold mstore1 at h ⊢; split at h
  · exact hK _ _ _ _ _ h
  · cases h
theorem mst2_mono (hK : ∀ a b c d r, K a b c d = some r → K' a b c d = some r) {rest : List mE} {L : List (Option mV)} {S : List mV} {σ : mS} {i : Nat} : ∀ r, mstore2 K rest L S σ i = some r → mstore2 K' rest L S σ i = some r := by
  intro r h; unfold mstore2 at h ⊢; split at h
  · exact hK _ _ _ _ _ h
  · cases h
theorem mst3_mono (hK : ∀ a b c d r, K a b c d = some r → K' a b c d = some r) {rest : List mE} {L : List (Option mV)} {S : List mV} {σ : mS} {i : Nat} : ∀ r, mstore3 K rest L S σ i = some r → mstore3 K' rest L S σ i = some r := by
  intro r h; unfold mstore3 at h ⊢; split at h
  · exact hK _ _ _ _ _ h
  · cases h
theorem mii_mono (hK : ∀ a b c d r, K a b c d = some r → K' a b c d = some r) {rest : List mE} {L : List (Option mV)} {S : List mV} {σ : mS} {g : Int32 → Int32 → Int32} : ∀ r, mii K rest L S σ g = some r → mii K' rest L S σ g = some r := by
  intro r h; unfold mii at h ⊢; split at h
  · exact hK _ _ _ _ _ h
  · cases h
theorem mll_mono (hK : ∀ a b c d r, K a b c d = some r → K' a b c d = some r) {rest : List mE} {L : List (Option mV)} {S : List mV} {σ : mS} {g : Int64 → Int64 → Int64} : ∀ r, mll K rest L S σ g = some r → mll K' rest L S σ g = some r := by
  intro r h; unfold mll at h ⊢; split at h
  · exact hK _ _ _ _ _ h
  · cases h
theorem ite_mono {c : Prop} {i1 : Decidable c} {a b a' b' : Option mR} (h1 : ∀ r, a = some r → a' = some r) (h2 : ∀ r, b = some r → b' = some r) : ∀ r, ite c a b = some r → ite c a' b' = some r := by
  intro r h
  by_cases q : c
  · rw [if_pos q] at h ⊢; exact h1 r h
  · rw [if_neg q] at h ⊢; exact h2 r h
theorem none_mono {a' : Option mR} : ∀ r : mR, (none : Option mR) = some r → a' = some r := fun _ h => by cases h
theorem cnd_mono {b : Bool} {a a' : Option mR} (h1 : ∀ r, a = some r → a' = some r) : ∀ r, (bif b then a else none) = some r → (bif b then a' else none) = some r := by
  intro r h
  cases b
  · cases h
  · exact h1 r h
set_option maxHeartbeats 4000000 in
theorem mstepA_mono (hR : ∀ q r, Rf q = some r → Rg q = some r) (hK : ∀ a b c d r, K a b c d = some r → K' a b c d = some r) {j : Nat} {e : mE} {rest : List mE} {L : List (Option mV)} {S : List mV} {σ : mS} : ∀ r, mstepA Rf j K e rest L S σ = some r → mstepA Rg j K' e rest L S σ = some r := by
  obtain ⟨pc, i, len, info, cut⟩ := e
  intro r
  cases i
  case if_icmp cnd off => cases cnd <;> exact ml1_mono (fun x y S => ite_mono (by first | exact mjump_mono hR hK | exact hK _ _ _ _) (by first | exact mjump_mono hR hK | exact hK _ _ _ _)) r
  case ifCond cnd off => cases cnd <;> exact ml0_mono (fun x S => ite_mono (by first | exact mjump_mono hR hK | exact hK _ _ _ _) (by first | exact mjump_mono hR hK | exact hK _ _ _ _)) r
  case tableswitch =>
    refine ml0_mono (fun x S r h => ?_) r
    dsimp only at h ⊢
    split at h
    · exact mswitch_mono (fun t r q => hK _ _ _ _ _ q) _ _ _ _ h
    · cases h
  case goto => exact mjump_mono hR hK r
  case idiv => exact ml1_mono (fun x y S => ite_mono none_mono (hK _ _ _ _)) r
  case irem => exact ml1_mono (fun x y S => ite_mono none_mono (hK _ _ _ _)) r
  case i2l => exact ml0_mono (fun x S => hK _ _ _ _) r
  case i2b => exact ml0_mono (fun x S => hK _ _ _ _) r
  case i2s => exact ml0_mono (fun x S => hK _ _ _ _) r
  all_goals first
    | exact none_mono r
    | exact hK _ _ _ _ r
    | exact mld1_mono hK r
    | exact mld2_mono hK r
    | exact mld3_mono hK r
    | exact mst1_mono hK r
    | exact mst2_mono hK r
    | exact mst3_mono hK r
    | exact mii_mono hK r
    | exact mll_mono hK r
    | (intro h; simp only [mstepA] at h ⊢; split at h <;> first | (cases h; done) | exact hK _ _ _ _ _ h | exact ite_mono none_mono (hK _ _ _ _) _ h)
set_option maxHeartbeats 4000000 in
theorem mstepB_mono (hR : ∀ q r, Rf q = some r → Rg q = some r) (hK : ∀ a b c d r, K a b c d = some r → K' a b c d = some r) {e : mE} {rest : List mE} {L : List (Option mV)} {S : List mV} {σ : mS} : ∀ r, mstepB Rf K e rest L S σ = some r → mstepB Rg K' e rest L S σ = some r := by
  obtain ⟨pc, i, len, info, cut⟩ := e
  intro r
  cases i
  case invokevirtual => 
    intro h
    simp only [mstepB] at h ⊢
    split at h
    · exact mcall_mono hR hK _ _ _ _ h
    · cases h
  case invokestatic =>
    intro h
    simp only [mstepB] at h ⊢
    split at h
    · exact ml1_mono (fun x y S => hK _ _ _ _) _ h
    · exact ml1_mono (fun x y S => hK _ _ _ _) _ h
    · split at h
      · split at h
        · exact ite_mono none_mono (hK _ _ _ _) _ h
        · exact ite_mono none_mono (hK _ _ _ _) _ h
        · cases h
      · cases h
    · exact mcall_mono hR hK _ _ _ _ h
    · cases h
  case getfield =>
    intro h
    simp only [mstepB] at h ⊢
    split at h
    · refine cnd_mono (fun r h => ?_) _ h
      split at h <;> exact hK _ _ _ _ _ h
    · cases h
  case putfield =>
    intro h
    simp only [mstepB] at h ⊢
    split at h
    · exact cnd_mono (hK _ _ _ _) _ h
    · exact cnd_mono (ite_mono (hK _ _ _ _) none_mono) _ h
    · cases h
  case bastore =>
    intro h
    simp only [mstepB] at h ⊢
    split at h
    · split at h
      · exact ite_mono none_mono (hK _ _ _ _) _ h
      · exact ite_mono none_mono (ite_mono (hK _ _ _ _) none_mono) _ h
      · cases h
    · cases h
  all_goals first
    | exact none_mono r
    | exact hK _ _ _ _ r
    | exact id
    | (intro h; simp only [mstepB] at h ⊢
       split at h <;> first
         | (cases h; done)
         | exact hK _ _ _ _ _ h
         | exact ite_mono none_mono (hK _ _ _ _) _ h
         | (split at h <;> first
             | (cases h; done)
             | exact hK _ _ _ _ _ h
             | exact ite_mono none_mono (hK _ _ _ _) _ h
             | (refine ite_mono none_mono (fun r h => ?_) _ h
                split at h <;> first | exact hK _ _ _ _ _ h | (cases h; done))))
theorem goF_mono (hR : ∀ q r, Rf q = some r → Rg q = some r) (hK : ∀ a b c d r, K a b c d = some r → K' a b c d = some r) {j : Nat} : ∀ a b c d r, goF Rf j K a b c d = some r → goF Rg j K' a b c d = some r := by
  intro a b c d r h
  unfold goF at h ⊢
  split at h
  · cases h
  · split at h
    · exact hK _ _ _ _ _ h
    · exact hR _ _ h
theorem stepN_mono (hR : ∀ q r, Rf q = some r → Rg q = some r) {j : Nat} : ∀ (n : Nat) a b c d r, stepN Rf j n a b c d = some r → stepN Rg j n a b c d = some r
  | 0, _, _, _, _, r, h => by unfold stepN at h; cases h
  | n + 1, [], _, _, _, r, h => by unfold stepN at h; cases h
  | n + 1, e :: rest, L, S, σ, r, h => by
    unfold stepN at h ⊢
    cases hb : mGrp e.2.1
    · rw [hb] at h
      simp only [cond_false] at h ⊢
      exact mstepA_mono hR (goF_mono hR (stepN_mono hR n)) _ h
    · rw [hb] at h
      simp only [cond_true] at h ⊢
      exact mstepB_mono hR (goF_mono hR (stepN_mono hR n)) _ h
theorem mblock_mono (code : Nat → List mE) (hR : ∀ q r, Rf q = some r → Rg q = some r) {q : mQ} : ∀ r, mblockOf code Rf q = some r → mblockOf code Rg q = some r := fun r h => stepN_mono hR _ _ _ _ _ r h
end FX
/-- the least relation that the steps close -/
def EvR (code : Nat → List mE) (q : mQ) (r : mR) : Prop := ∀ P : mQ → mR → Prop, (∀ (Rf : mQ → Option mR) (q : mQ) (r : mR), (∀ q' r', Rf q' = some r' → P q' r') → mblockOf code Rf q = some r → P q r) → P q r
theorem EvR.mk {code : Nat → List mE} {Rf : mQ → Option mR} {q : mQ} {r : mR} (hR : ∀ q' r', Rf q' = some r' → EvR code q' r') (h : mblockOf code Rf q = some r) : EvR code q r :=
  fun P hP => hP Rf q r (fun q' r' h' => hR q' r' h' P hP) h
theorem EvR.inv {code : Nat → List mE} {q : mQ} {r : mR} (h : EvR code q r) : ∃ Rf : mQ → Option mR, (∀ q' r', Rf q' = some r' → EvR code q' r') ∧ mblockOf code Rf q = some r := by
  refine h (fun q r => ∃ Rf : mQ → Option mR, (∀ q' r', Rf q' = some r' → EvR code q' r') ∧ mblockOf code Rf q = some r) ?_
  intro Rf q r hR hb
  refine ⟨Rf, fun q' r' h' => ?_, hb⟩
  obtain ⟨Rg, h1, h2⟩ := hR q' r' h'
  exact EvR.mk h1 h2
theorem EvR.uniq {code : Nat → List mE} {q : mQ} {r : mR} (h : EvR code q r) : ∀ r2, EvR code q r2 → r2 = r := by
  refine (h (fun q r => EvR code q r ∧ ∀ r2, EvR code q r2 → r2 = r) ?_).2
  intro Rf q r hR hb
  refine ⟨EvR.mk (fun q' r' h' => (hR q' r' h').1) hb, fun r2 h2 => ?_⟩
  obtain ⟨Rg, hg, hg2⟩ := h2.inv
  have hF : ∀ q' r', Rf q' = some r' → (fun q => match Rf q with | some r => some r | none => Rg q) q' = some r' := by
    intro q' r' h'
    simp only [h']
  have hG : ∀ q' r', Rg q' = some r' → (fun q => match Rf q with | some r => some r | none => Rg q) q' = some r' := by
    intro q' r' h'
    cases hq : Rf q' with
    | none => simp only [hq, h']
    | some r'' => simp only [hq]; rw [(hR q' r'' hq).2 r' (hg q' r' h')]
  have e1 := mblock_mono code hF _ hb
  have e2 := mblock_mono code hG _ hg2
  rw [e1] at e2
  exact (Option.some.inj e2).symm
noncomputable def EvOf (code : Nat → List mE) (q : mQ) : Option mR := @dite _ (∃ r, EvR code q r) (Classical.propDecidable _) (fun h => some (Classical.choose h)) (fun _ => none)
theorem EvOf_R {code : Nat → List mE} {q : mQ} {r : mR} : EvOf code q = some r ↔ EvR code q r := by
  unfold EvOf
  by_cases h : ∃ r, EvR code q r
  · rw [dif_pos h]
    constructor
    · intro e
      rw [← Option.some.inj e]
      exact Classical.choose_spec h
    · intro e
      rw [EvR.uniq e _ (Classical.choose_spec h)]
  · rw [dif_neg h]
    constructor
    · intro e; cases e
    · intro e; exact absurd ⟨r, e⟩ h
/-- one step of it -/
theorem EvOf_eq (code : Nat → List mE) (q : mQ) : EvOf code q = mblockOf code (EvOf code) q := by
  have h1 : ∀ r, EvOf code q = some r → mblockOf code (EvOf code) q = some r := by
    intro r h
    obtain ⟨Rf, hR, hb⟩ := (EvOf_R.mp h).inv
    exact mblock_mono code (fun q' r' h' => EvOf_R.mpr (hR q' r' h')) _ hb
  have h2 : ∀ r, mblockOf code (EvOf code) q = some r → EvOf code q = some r := fun r h => EvOf_R.mpr (EvR.mk (fun q' r' h' => EvOf_R.mp h') h)
  cases h : EvOf code q with
  | some r => exact (h1 r h).symm
  | none =>
    cases h' : mblockOf code (EvOf code) q with
    | none => rfl
    | some r => rw [h2 r h'] at h; cases h
end
section
/-! The mini-code of each method (by program out of the decode rows), and its blocks. -/
def k_X0_become : List mE := [(0, .aload_n 1, 1, [], []), (1, .getfield 9, 3, [0, 0], []), (4, .iconst 0, 1, [0], []), (5, .aload_n 0, 1, [], []), (6, .getfield 9, 3, [0, 0], []), (9, .iconst 0, 1, [0], []), (10, .bipush 12, 2, [12], []), (12, .invokestatic 31, 3, [1002], []), (15, .aload_n 0, 1, [], []), (16, .getfield 18, 3, [0, 1], []), (19, .aload_n 1, 1, [], []), (20, .getfield 18, 3, [0, 1], []), (23, .getfield 37, 3, [1, 0], []), (26, .putfield 37, 3, [1, 0], []), (29, .iconst 0, 1, [0], []), (30, .istore_n 2, 1, [], []), (31, .iload_n 2, 1, [], [1, 1, 1]), (32, .aload_n 1, 1, [], []), (33, .getfield 42, 3, [0, 3], []), (36, .if_icmp .ge 24, 3, [60, 0], []), (39, .aload_n 0, 1, [], []), (40, .getfield 24, 3, [0, 2], []), (43, .iload_n 2, 1, [], []), (44, .aaload, 1, [], []), (45, .aload_n 1, 1, [], []), (46, .getfield 24, 3, [0, 2], []), (49, .iload_n 2, 1, [], []), (50, .aaload, 1, [], []), (51, .invokevirtual 45, 3, [2, 59, 3, 0], []), (54, .iinc 2 1, 3, [], []), (57, .goto (-26), 3, [31, 1, 1, 1, 1], []), (60, .aload_n 0, 1, [], []), (61, .aload_n 1, 1, [], []), (62, .getfield 42, 3, [0, 3], []), (65, .putfield 42, 3, [0, 3], []), (68, .aload_n 0, 1, [], []), (69, .aload_n 1, 1, [], []), (70, .getfield 49, 3, [0, 4], []), (73, .putfield 49, 3, [0, 4], []), (76, .aload_n 0, 1, [], []), (77, .aload_n 1, 1, [], []), (78, .getfield 52, 3, [0, 5], []), (81, .putfield 52, 3, [0, 5], []), (84, .aload_n 0, 1, [], []), (85, .aload_n 1, 1, [], []), (86, .getfield 55, 3, [0, 6], []), (89, .putfield 55, 3, [0, 6], []), (92, .aload_n 0, 1, [], []), (93, .aload_n 1, 1, [], []), (94, .getfield 58, 3, [0, 7], []), (97, .putfield 58, 3, [0, 7], []), (100, .aload_n 0, 1, [], []), (101, .aload_n 1, 1, [], []), (102, .getfield 61, 3, [0, 8], []), (105, .putfield 61, 3, [0, 8], []), (108, .aload_n 0, 1, [], []), (109, .aload_n 1, 1, [], []), (110, .getfield 64, 3, [0, 9], []), (113, .putfield 64, 3, [0, 9], []), (116, .aload_n 0, 1, [], []), (117, .aload_n 1, 1, [], []), (118, .getfield 67, 3, [0, 10], []), (121, .putfield 67, 3, [0, 10], []), (124, .aload_n 0, 1, [], []), (125, .aload_n 1, 1, [], []), (126, .getfield 70, 3, [0, 11], []), (129, .putfield 70, 3, [0, 11], []), (132, .aload_n 0, 1, [], []), (133, .aload_n 1, 1, [], []), (134, .getfield 73, 3, [0, 12], []), (137, .putfield 73, 3, [0, 12, 1], []), (140, .return_, 1, [], [])]
def k_X0_startAnew : List mE := [(0, .aload_n 0, 1, [], []), (1, .iload_n 1, 1, [], []), (2, .putfield 42, 3, [0, 3], []), (5, .aload_n 0, 1, [], []), (6, .iconst 0, 1, [0], []), (7, .putfield 49, 3, [0, 4], []), (10, .aload_n 0, 1, [], []), (11, .iconst 0, 1, [0], []), (12, .putfield 52, 3, [0, 5], []), (15, .aload_n 0, 1, [], []), (16, .iconst 0, 1, [0], []), (17, .putfield 55, 3, [0, 6], []), (20, .aload_n 0, 1, [], []), (21, .iconst 0, 1, [0], []), (22, .putfield 58, 3, [0, 7], []), (25, .aload_n 0, 1, [], []), (26, .iconst 0, 1, [0], []), (27, .putfield 61, 3, [0, 8], []), (30, .aload_n 0, 1, [], []), (31, .iconst 0, 1, [0], []), (32, .putfield 64, 3, [0, 9], []), (35, .aload_n 0, 1, [], []), (36, .iconst 0, 1, [0], []), (37, .putfield 67, 3, [0, 10], []), (40, .aload_n 0, 1, [], []), (41, .iconst 0, 1, [0], []), (42, .putfield 70, 3, [0, 11], []), (45, .aload_n 0, 1, [], []), (46, .iconst 0, 1, [0], []), (47, .putfield 73, 3, [0, 12, 1], []), (50, .iconst 0, 1, [0], []), (51, .istore_n 3, 1, [], []), (52, .iload_n 3, 1, [], [1, 0, 1, 1]), (53, .aload_n 0, 1, [], []), (54, .getfield 42, 3, [0, 3], []), (57, .if_icmp .ge 15, 3, [72, 0], []), (60, .aload_n 0, 1, [], []), (61, .iload_n 3, 1, [], []), (62, .aload_n 2, 1, [], []), (63, .invokevirtual 77, 3, [3, 2, 7, 0], []), (66, .iinc 3 1, 3, [], []), (69, .goto (-17), 3, [52, 1, 1, 0, 1, 1], []), (72, .return_, 1, [], [])]
def k_X0_startStation : List mE := [(0, .aload_n 0, 1, [], []), (1, .getfield 24, 3, [0, 2], []), (4, .iload_n 1, 1, [], []), (5, .aaload, 1, [], []), (6, .astore_n 3, 1, [], []), (7, .aload_n 3, 1, [], []), (8, .iconst 0, 1, [0], []), (9, .putfield 81, 3, [8, 6], []), (12, .iconst 0, 1, [0], []), (13, .istore 4, 2, [], []), (15, .iload 4, 2, [], [1, 1, 1, 1, 1, 0, 0]), (17, .bipush 6, 2, [6], []), (19, .if_icmp .ge 82, 3, [101, 0], []), (22, .iload_n 1, 1, [], []), (23, .bipush 6, 2, [6], []), (25, .imul, 1, [], []), (26, .iload 4, 2, [], []), (28, .iadd, 1, [], []), (29, .istore 5, 2, [], []), (31, .iload 5, 2, [], []), (33, .aload_n 2, 1, [], []), (34, .arraylength, 1, [], []), (35, .if_icmp .ge 10, 3, [45, 0], []), (38, .aload_n 2, 1, [], []), (39, .iload 5, 2, [], []), (41, .iaload, 1, [], []), (42, .goto 4, 3, [46, 0], []), (45, .iconst 0, 1, [0], []), (46, .istore 6, 2, [], []), (48, .aload_n 3, 1, [], []), (49, .getfield 84, 3, [8, 3], []), (52, .iload 4, 2, [], []), (54, .iload 6, 2, [], []), (56, .iastore, 1, [], []), (57, .aload_n 3, 1, [], []), (58, .getfield 87, 3, [8, 4], []), (61, .iload 4, 2, [], []), (63, .iconst 1, 1, [1], []), (64, .iastore, 1, [], []), (65, .aload_n 3, 1, [], []), (66, .getfield 90, 3, [8, 5], []), (69, .iload 4, 2, [], []), (71, .iconst 0, 1, [0], []), (72, .iastore, 1, [], []), (73, .aload_n 3, 1, [], []), (74, .dup, 1, [], []), (75, .getfield 81, 3, [8, 6], []), (78, .iload 6, 2, [], []), (80, .ifCond .le 10, 3, [90, 0], []), (83, .iconst 1, 1, [1], []), (84, .iload 4, 2, [], []), (86, .ishl, 1, [], []), (87, .goto 4, 3, [91, 0], []), (90, .iconst 0, 1, [0], []), (91, .ior, 1, [], []), (92, .putfield 81, 3, [8, 6], []), (95, .iinc 4 1, 3, [], []), (98, .goto (-83), 3, [15, 1, 1, 1, 1, 1, 1, 0, 0], []), (101, .iconst 0, 1, [0], []), (102, .istore 4, 2, [], []), (104, .iload 4, 2, [], [1, 0, 0, 1, 1, 0, 0]), (106, .iconst 4, 1, [4], []), (107, .if_icmp .ge 51, 3, [158, 0], []), (110, .aload_n 3, 1, [], []), (111, .getfield 93, 3, [8, 0], []), (114, .iload 4, 2, [], []), (116, .aaload, 1, [], []), (117, .iconst 0, 1, [0], []), (118, .putfield 97, 3, [6, 1], []), (121, .aload_n 3, 1, [], []), (122, .getfield 93, 3, [8, 0], []), (125, .iload 4, 2, [], []), (127, .aaload, 1, [], []), (128, .iconst 0, 1, [0], []), (129, .putfield 102, 3, [6, 3], []), (132, .aload_n 3, 1, [], []), (133, .getfield 93, 3, [8, 0], []), (136, .iload 4, 2, [], []), (138, .aaload, 1, [], []), (139, .aload_n 0, 1, [], []), (140, .getfield 9, 3, [0, 0], []), (143, .bipush 7, 2, [7], []), (145, .iload 4, 2, [], []), (147, .iadd, 1, [], []), (148, .iaload, 1, [], []), (149, .putfield 105, 3, [6, 2], []), (152, .iinc 4 1, 3, [], []), (155, .goto (-51), 3, [104, 1, 1, 0, 0, 1, 1, 0, 0], []), (158, .aload_n 3, 1, [], []), (159, .iconst 0, 1, [0], []), (160, .putfield 108, 3, [8, 7], []), (163, .aload_n 3, 1, [], []), (164, .iconst 0, 1, [0], []), (165, .putfield 111, 3, [8, 8], []), (168, .aload_n 3, 1, [], []), (169, .iconst 0, 1, [0], []), (170, .putfield 114, 3, [8, 9], []), (173, .aload_n 3, 1, [], []), (174, .iconst 0, 1, [0], []), (175, .putfield 117, 3, [8, 10], []), (178, .aload_n 3, 1, [], []), (179, .getfield 120, 3, [8, 1], []), (182, .iconst 0, 1, [0], []), (183, .putfield 124, 3, [2, 0, 1], []), (186, .aload_n 3, 1, [], []), (187, .iconst (-1), 1, [], []), (188, .iconst 0, 1, [0], []), (189, .invokevirtual 129, 3, [3, 62, 3, 0], []), (192, .aload_n 3, 1, [], []), (193, .getfield 133, 3, [8, 2], []), (196, .invokevirtual 137, 3, [1, 38, 2, 0], []), (199, .return_, 1, [], [])]
def k_X0_hear : List mE := [(0, .iload_n 1, 1, [], []), (1, .ifCond .lt 43, 3, [44, 0], []), (4, .iload_n 1, 1, [], []), (5, .aload_n 0, 1, [], []), (6, .getfield 42, 3, [0, 3], []), (9, .if_icmp .ge 35, 3, [44, 0], []), (12, .iload_n 2, 1, [], []), (13, .ifCond .lt 31, 3, [44, 0], []), (16, .iload_n 2, 1, [], []), (17, .aload_n 0, 1, [], []), (18, .getfield 42, 3, [0, 3], []), (21, .if_icmp .ge 23, 3, [44, 0], []), (24, .aload_n 0, 1, [], []), (25, .getfield 24, 3, [0, 2], []), (28, .iload_n 1, 1, [], []), (29, .aaload, 1, [], []), (30, .getfield 81, 3, [8, 6], []), (33, .iload_n 2, 1, [], []), (34, .ishr, 1, [], []), (35, .iconst 1, 1, [1], []), (36, .iand, 1, [], []), (37, .ifCond .eq 7, 3, [44, 0], []), (40, .iconst 1, 1, [1], []), (41, .goto 4, 3, [45, 0], []), (44, .iconst 0, 1, [0], []), (45, .ireturn, 1, [1], [])]
def k_X0_sumOf : List mE := [(0, .iconst 0, 1, [0], []), (1, .istore_n 2, 1, [], []), (2, .iconst 0, 1, [0], []), (3, .istore_n 3, 1, [], []), (4, .iload_n 3, 1, [], [1, 1, 1, 1]), (5, .aload_n 0, 1, [], []), (6, .getfield 42, 3, [0, 3], []), (9, .if_icmp .ge 26, 3, [35, 0], []), (12, .iload_n 2, 1, [], []), (13, .aload_n 0, 1, [], []), (14, .getfield 24, 3, [0, 2], []), (17, .iload_n 3, 1, [], []), (18, .aaload, 1, [], []), (19, .getfield 133, 3, [8, 2], []), (22, .getfield 142, 3, [3, 0], []), (25, .iload_n 1, 1, [], []), (26, .iaload, 1, [], []), (27, .iadd, 1, [], []), (28, .istore_n 2, 1, [], []), (29, .iinc 3 1, 3, [], []), (32, .goto (-28), 3, [4, 1, 1, 1, 1, 1], []), (35, .iload_n 2, 1, [], []), (36, .ireturn, 1, [], [])]
def k_X0_waiting : List mE := [(0, .iconst 0, 1, [0], []), (1, .istore_n 1, 1, [], []), (2, .iconst 0, 1, [0], []), (3, .istore_n 2, 1, [], []), (4, .iload_n 2, 1, [], [1, 1, 1]), (5, .aload_n 0, 1, [], []), (6, .getfield 42, 3, [0, 3], []), (9, .if_icmp .ge 21, 3, [30, 0], []), (12, .iload_n 1, 1, [], []), (13, .aload_n 0, 1, [], []), (14, .getfield 24, 3, [0, 2], []), (17, .iload_n 2, 1, [], []), (18, .aaload, 1, [], []), (19, .invokevirtual 145, 3, [1, 61, 3, 1], []), (22, .iadd, 1, [], []), (23, .istore_n 1, 1, [], []), (24, .iinc 2 1, 3, [], []), (27, .goto (-23), 3, [4, 1, 1, 1, 1], []), (30, .iload_n 1, 1, [], []), (31, .ireturn, 1, [], [])]
def k_X0_exchangesOn : List mE := [(0, .iconst 0, 1, [0], []), (1, .istore_n 1, 1, [], []), (2, .iconst 0, 1, [0], []), (3, .istore_n 2, 1, [], []), (4, .iload_n 2, 1, [], [1, 1, 1]), (5, .aload_n 0, 1, [], []), (6, .getfield 42, 3, [0, 3], []), (9, .if_icmp .ge 32, 3, [41, 0], []), (12, .iload_n 1, 1, [], []), (13, .aload_n 0, 1, [], []), (14, .getfield 24, 3, [0, 2], []), (17, .iload_n 2, 1, [], []), (18, .aaload, 1, [], []), (19, .getfield 120, 3, [8, 1], []), (22, .getfield 124, 3, [2, 0], []), (25, .ifCond .eq 7, 3, [32, 0], []), (28, .iconst 1, 1, [1], []), (29, .goto 4, 3, [33, 0], []), (32, .iconst 0, 1, [0], []), (33, .iadd, 1, [], []), (34, .istore_n 1, 1, [], []), (35, .iinc 2 1, 3, [], []), (38, .goto (-34), 3, [4, 1, 1, 1, 1], []), (41, .iload_n 1, 1, [], []), (42, .ireturn, 1, [], [])]
def k_X0_emptyQueues : List mE := [(0, .iconst 0, 1, [0], []), (1, .istore_n 2, 1, [], []), (2, .iload_n 2, 1, [], [1, 1, 1]), (3, .aload_n 0, 1, [], []), (4, .getfield 42, 3, [0, 3], []), (7, .if_icmp .ge 24, 3, [31, 0], []), (10, .aload_n 0, 1, [], []), (11, .getfield 24, 3, [0, 2], []), (14, .iload_n 2, 1, [], []), (15, .aaload, 1, [], []), (16, .getfield 93, 3, [8, 0], []), (19, .iload_n 1, 1, [], []), (20, .aaload, 1, [], []), (21, .iconst 0, 1, [0], []), (22, .putfield 97, 3, [6, 1], []), (25, .iinc 2 1, 3, [], []), (28, .goto (-26), 3, [2, 1, 1, 1, 1], []), (31, .return_, 1, [], [])]
def k_X0_whyNotOffer : List mE := [(0, .iload_n 1, 1, [], []), (1, .ifCond .lt 28, 3, [29, 0], []), (4, .iload_n 1, 1, [], []), (5, .aload_n 0, 1, [], []), (6, .getfield 42, 3, [0, 3], []), (9, .if_icmp .ge 20, 3, [29, 0], []), (12, .iload_n 3, 1, [], []), (13, .ifCond .lt 16, 3, [29, 0], []), (16, .iload_n 3, 1, [], []), (17, .aload_n 0, 1, [], []), (18, .getfield 42, 3, [0, 3], []), (21, .if_icmp .ge 8, 3, [29, 0], []), (24, .iload_n 1, 1, [], []), (25, .iload_n 3, 1, [], []), (26, .if_icmp .ne 5, 3, [31, 0], []), (29, .iconst (-1), 1, [], []), (30, .ireturn, 1, [], []), (31, .iload_n 2, 1, [], []), (32, .invokestatic 149, 3, [1, 102, 1, 1], []), (35, .ifCond .eq 16, 3, [51, 0], []), (38, .iload 4, 2, [], []), (40, .iconst 1, 1, [1], []), (41, .if_icmp .lt 10, 3, [51, 0], []), (44, .iload 4, 2, [], []), (46, .bipush 9, 2, [9], []), (48, .if_icmp .le 5, 3, [53, 0], []), (51, .iconst (-1), 1, [], []), (52, .ireturn, 1, [], []), (53, .aload_n 0, 1, [], []), (54, .iload_n 1, 1, [], []), (55, .iload_n 3, 1, [], []), (56, .invokevirtual 153, 3, [3, 3, 3, 1], []), (59, .ifCond .ne 6, 3, [65, 0], []), (62, .bipush (-3), 2, [], []), (64, .ireturn, 1, [], []), (65, .aload_n 0, 1, [], []), (66, .getfield 24, 3, [0, 2], []), (69, .iload_n 1, 1, [], []), (70, .aaload, 1, [], []), (71, .getfield 93, 3, [8, 0], []), (74, .iload_n 2, 1, [], []), (75, .aaload, 1, [], []), (76, .getfield 97, 3, [6, 1], []), (79, .bipush 8, 2, [8], []), (81, .if_icmp .lt 8, 3, [89, 0], []), (84, .bipush (-2), 2, [], []), (86, .goto 4, 3, [90, 0], []), (89, .iconst 0, 1, [0], []), (90, .ireturn, 1, [], [])]
def k_X0_takeFrame : List mE := [(0, .aload_n 0, 1, [], []), (1, .getfield 24, 3, [0, 2], []), (4, .iload_n 1, 1, [], []), (5, .aaload, 1, [], []), (6, .getfield 93, 3, [8, 0], []), (9, .iload_n 2, 1, [], []), (10, .aaload, 1, [], []), (11, .astore 5, 2, [], []), (13, .aload 5, 2, [], []), (15, .iload_n 3, 1, [], []), (16, .iload 4, 2, [], []), (18, .aload_n 0, 1, [], []), (19, .getfield 49, 3, [0, 4], []), (22, .invokevirtual 157, 3, [4, 50, 5, 0], []), (25, .aload 5, 2, [], []), (27, .getfield 97, 3, [6, 1], []), (30, .ireturn, 1, [], [])]
def k_X0_markLast : List mE := [(0, .aload_n 0, 1, [], []), (1, .getfield 24, 3, [0, 2], []), (4, .iload_n 1, 1, [], []), (5, .aaload, 1, [], []), (6, .getfield 93, 3, [8, 0], []), (9, .iload_n 2, 1, [], []), (10, .aaload, 1, [], []), (11, .astore_n 3, 1, [], []), (12, .aload_n 3, 1, [], []), (13, .getfield 97, 3, [6, 1], []), (16, .ifCond .le 19, 3, [35, 0], []), (19, .aload_n 3, 1, [], []), (20, .getfield 161, 3, [6, 0], []), (23, .aload_n 3, 1, [], []), (24, .getfield 97, 3, [6, 1], []), (27, .iconst 1, 1, [1], []), (28, .isub, 1, [], []), (29, .iconst 5, 1, [5], []), (30, .imul, 1, [], []), (31, .iconst 4, 1, [4], []), (32, .iadd, 1, [], []), (33, .iconst 1, 1, [1], []), (34, .iastore, 1, [], []), (35, .aload_n 0, 1, [], []), (36, .iconst 0, 1, [0], []), (37, .putfield 73, 3, [0, 12, 1], []), (40, .return_, 1, [], [])]
def k_X0_drawAll : List mE := [(0, .iconst 0, 1, [0], []), (1, .istore_n 1, 1, [], []), (2, .iconst 0, 1, [0], []), (3, .istore_n 2, 1, [], []), (4, .iload_n 2, 1, [], [1, 1, 1, 0, 0]), (5, .aload_n 0, 1, [], []), (6, .getfield 42, 3, [0, 3], []), (9, .if_icmp .ge 65, 3, [74, 0], []), (12, .iconst 0, 1, [0], []), (13, .istore_n 3, 1, [], []), (14, .iload_n 3, 1, [], [1, 1, 1, 1, 0]), (15, .iconst 4, 1, [4], []), (16, .if_icmp .ge 52, 3, [68, 0], []), (19, .aload_n 0, 1, [], []), (20, .getfield 24, 3, [0, 2], []), (23, .iload_n 2, 1, [], []), (24, .aaload, 1, [], []), (25, .getfield 93, 3, [8, 0], []), (28, .iload_n 3, 1, [], []), (29, .aaload, 1, [], []), (30, .astore 4, 2, [], []), (32, .aload 4, 2, [], []), (34, .getfield 97, 3, [6, 1], []), (37, .ifCond .le 25, 3, [62, 0], []), (40, .aload 4, 2, [], []), (42, .aload_n 0, 1, [], []), (43, .getfield 18, 3, [0, 1], []), (46, .aload 4, 2, [], []), (48, .getfield 105, 3, [6, 2], []), (51, .iconst 1, 1, [1], []), (52, .iadd, 1, [], []), (53, .invokevirtual 164, 3, [2, 34, 2, 1], []), (56, .putfield 102, 3, [6, 3], []), (59, .iinc 1 1, 3, [], []), (62, .iinc 3 1, 3, [], []), (65, .goto (-51), 3, [14, 1, 1, 1, 1, 1, 0], []), (68, .iinc 2 1, 3, [], []), (71, .goto (-67), 3, [4, 1, 1, 1, 1, 0, 0], []), (74, .iload_n 1, 1, [], []), (75, .ireturn, 1, [], [])]
def k_X0_isReady : List mE := [(0, .aload_n 0, 1, [], []), (1, .getfield 24, 3, [0, 2], []), (4, .iload_n 1, 1, [], []), (5, .aaload, 1, [], []), (6, .getfield 93, 3, [8, 0], []), (9, .iload_n 2, 1, [], []), (10, .aaload, 1, [], []), (11, .astore_n 3, 1, [], []), (12, .aload_n 3, 1, [], []), (13, .getfield 97, 3, [6, 1], []), (16, .ifCond .le 34, 3, [50, 0], []), (19, .aload_n 3, 1, [], []), (20, .getfield 102, 3, [6, 3], []), (23, .ifCond .ne 27, 3, [50, 0], []), (26, .aload_n 0, 1, [], []), (27, .getfield 9, 3, [0, 0], []), (30, .iconst 3, 1, [3], []), (31, .iload_n 2, 1, [], []), (32, .iadd, 1, [], []), (33, .iaload, 1, [], []), (34, .aload_n 0, 1, [], []), (35, .getfield 24, 3, [0, 2], []), (38, .iload_n 1, 1, [], []), (39, .aaload, 1, [], []), (40, .getfield 108, 3, [8, 7], []), (43, .if_icmp .gt 7, 3, [50, 0], []), (46, .iconst 1, 1, [1], []), (47, .goto 4, 3, [51, 0], []), (50, .iconst 0, 1, [0], []), (51, .ireturn, 1, [1], [])]
def k_X0_passSlot : List mE := [(0, .aload_n 0, 1, [], []), (1, .aload_n 0, 1, [], []), (2, .invokevirtual 168, 3, [1, 14, 3, 1], []), (5, .putfield 58, 3, [0, 7], []), (8, .aload_n 0, 1, [], []), (9, .iconst 0, 1, [0], []), (10, .putfield 61, 3, [0, 8], []), (13, .iconst 0, 1, [0], []), (14, .istore_n 1, 1, [], []), (15, .iload_n 1, 1, [], [1, 1, 0]), (16, .aload_n 0, 1, [], []), (17, .getfield 42, 3, [0, 3], []), (20, .if_icmp .ge 42, 3, [62, 0], []), (23, .aload_n 0, 1, [], []), (24, .getfield 24, 3, [0, 2], []), (27, .iload_n 1, 1, [], []), (28, .aaload, 1, [], []), (29, .invokevirtual 171, 3, [1, 60, 1, 1], []), (32, .ifCond .eq 24, 3, [56, 0], []), (35, .aload_n 0, 1, [], []), (36, .getfield 24, 3, [0, 2], []), (39, .iload_n 1, 1, [], []), (40, .aaload, 1, [], []), (41, .getfield 111, 3, [8, 8], []), (44, .aload_n 0, 1, [], []), (45, .getfield 49, 3, [0, 4], []), (48, .if_icmp .gt 8, 3, [56, 0], []), (51, .aload_n 0, 1, [], []), (52, .iload_n 1, 1, [], []), (53, .invokevirtual 175, 3, [2, 15, 4, 0], []), (56, .iinc 1 1, 3, [], []), (59, .goto (-44), 3, [15, 1, 1, 1, 0], []), (62, .aload_n 0, 1, [], []), (63, .aload_n 0, 1, [], []), (64, .invokevirtual 179, 3, [1, 18, 4, 1], []), (67, .putfield 52, 3, [0, 5], []), (70, .aload_n 0, 1, [], []), (71, .aload_n 0, 1, [], []), (72, .invokevirtual 182, 3, [1, 21, 4, 1], []), (75, .putfield 55, 3, [0, 6], []), (78, .aload_n 0, 1, [], []), (79, .invokevirtual 185, 3, [1, 22, 4, 0], []), (82, .iconst 0, 1, [0], []), (83, .istore_n 1, 1, [], []), (84, .iload_n 1, 1, [], [1, 1, 0]), (85, .aload_n 0, 1, [], []), (86, .getfield 42, 3, [0, 3], []), (89, .if_icmp .ge 122, 3, [211, 0], []), (92, .aload_n 0, 1, [], []), (93, .getfield 24, 3, [0, 2], []), (96, .iload_n 1, 1, [], []), (97, .aaload, 1, [], []), (98, .getfield 120, 3, [8, 1], []), (101, .astore_n 2, 1, [], []), (102, .aload_n 2, 1, [], []), (103, .getfield 124, 3, [2, 0], []), (106, .ifCond .eq 99, 3, [205, 0], []), (109, .aload_n 2, 1, [], []), (110, .getfield 188, 3, [2, 1], []), (113, .ifCond .lt 92, 3, [205, 0], []), (116, .aload_n 2, 1, [], []), (117, .getfield 188, 3, [2, 1], []), (120, .aload_n 0, 1, [], []), (121, .getfield 42, 3, [0, 3], []), (124, .if_icmp .ge 81, 3, [205, 0], []), (127, .aload_n 2, 1, [], []), (128, .getfield 191, 3, [2, 5], []), (131, .tableswitch 64 0 2 #[25, 38, 51], 25, [195, 156, 169, 182], []), (156, .aload_n 0, 1, [], []), (157, .iload_n 1, 1, [], []), (158, .aload_n 2, 1, [], []), (159, .getfield 188, 3, [2, 1], []), (162, .aload_n 2, 1, [], []), (163, .invokevirtual 194, 3, [4, 24, 4, 0], []), (166, .goto 39, 3, [205, 0], []), (169, .aload_n 0, 1, [], []), (170, .iload_n 1, 1, [], []), (171, .aload_n 2, 1, [], []), (172, .getfield 188, 3, [2, 1], []), (175, .aload_n 2, 1, [], []), (176, .invokevirtual 198, 3, [4, 25, 5, 0], []), (179, .goto 26, 3, [205, 0], []), (182, .aload_n 0, 1, [], []), (183, .iload_n 1, 1, [], []), (184, .aload_n 2, 1, [], []), (185, .getfield 188, 3, [2, 1], []), (188, .aload_n 2, 1, [], []), (189, .invokevirtual 201, 3, [4, 26, 5, 0], []), (192, .goto 13, 3, [205, 0], []), (195, .aload_n 0, 1, [], []), (196, .iload_n 1, 1, [], []), (197, .aload_n 2, 1, [], []), (198, .getfield 188, 3, [2, 1], []), (201, .aload_n 2, 1, [], []), (202, .invokevirtual 204, 3, [4, 29, 6, 0], []), (205, .iinc 1 1, 3, [], []), (208, .goto (-124), 3, [84, 1, 1, 1, 0], []), (211, .iconst 0, 1, [0], []), (212, .istore_n 1, 1, [], []), (213, .iload_n 1, 1, [], [1, 1, 0]), (214, .aload_n 0, 1, [], []), (215, .getfield 42, 3, [0, 3], []), (218, .if_icmp .ge 14, 3, [232, 0], []), (221, .aload_n 0, 1, [], []), (222, .iload_n 1, 1, [], []), (223, .invokevirtual 207, 3, [2, 33, 6, 0], []), (226, .iinc 1 1, 3, [], []), (229, .goto (-16), 3, [213, 1, 1, 1, 0], []), (232, .aload_n 0, 1, [], []), (233, .dup, 1, [], []), (234, .getfield 49, 3, [0, 4], []), (237, .iconst 1, 1, [1], []), (238, .iadd, 1, [], []), (239, .putfield 49, 3, [0, 4], []), (242, .return_, 1, [], [])]
def k_X0_runningSpans : List mE := [(0, .iconst 0, 1, [0], []), (1, .istore_n 1, 1, [], []), (2, .iconst 0, 1, [0], []), (3, .istore_n 2, 1, [], []), (4, .iload_n 2, 1, [], [1, 1, 1]), (5, .aload_n 0, 1, [], []), (6, .getfield 42, 3, [0, 3], []), (9, .if_icmp .ge 35, 3, [44, 0], []), (12, .iload_n 1, 1, [], []), (13, .aload_n 0, 1, [], []), (14, .getfield 24, 3, [0, 2], []), (17, .iload_n 2, 1, [], []), (18, .aaload, 1, [], []), (19, .getfield 111, 3, [8, 8], []), (22, .aload_n 0, 1, [], []), (23, .getfield 49, 3, [0, 4], []), (26, .if_icmp .le 9, 3, [35, 0], []), (29, .iconst 1, 1, [1], []), (30, .iload_n 2, 1, [], []), (31, .ishl, 1, [], []), (32, .goto 4, 3, [36, 0], []), (35, .iconst 0, 1, [0], []), (36, .ior, 1, [], []), (37, .istore_n 1, 1, [], []), (38, .iinc 2 1, 3, [], []), (41, .goto (-37), 3, [4, 1, 1, 1, 1], []), (44, .iload_n 1, 1, [], []), (45, .ireturn, 1, [], [])]
def k_X0_beginOf : List mE := [(0, .iconst (-1), 1, [], []), (1, .istore_n 2, 1, [], []), (2, .iconst 0, 1, [0], []), (3, .istore_n 3, 1, [], []), (4, .iload_n 3, 1, [], [1, 1, 1, 1]), (5, .iconst 4, 1, [4], []), (6, .if_icmp .ge 59, 3, [65, 0], []), (9, .aload_n 0, 1, [], []), (10, .iload_n 1, 1, [], []), (11, .iload_n 3, 1, [], []), (12, .invokevirtual 210, 3, [3, 12, 4, 1], []), (15, .ifCond .eq 44, 3, [59, 0], []), (18, .iload_n 2, 1, [], []), (19, .iconst (-1), 1, [], []), (20, .if_icmp .ne 14, 3, [34, 0], []), (23, .iload_n 3, 1, [], []), (24, .istore_n 2, 1, [], []), (25, .aload_n 0, 1, [], []), (26, .iload_n 1, 1, [], []), (27, .iload_n 3, 1, [], []), (28, .invokevirtual 213, 3, [3, 16, 7, 0], []), (31, .goto 28, 3, [59, 0], []), (34, .aload_n 0, 1, [], []), (35, .getfield 24, 3, [0, 2], []), (38, .iload_n 1, 1, [], []), (39, .aaload, 1, [], []), (40, .getfield 133, 3, [8, 2], []), (43, .getfield 142, 3, [3, 0], []), (46, .bipush 6, 2, [6], []), (48, .dup2, 1, [], []), (49, .iaload, 1, [], []), (50, .iconst 1, 1, [1], []), (51, .iadd, 1, [], []), (52, .iastore, 1, [], []), (53, .aload_n 0, 1, [], []), (54, .iload_n 1, 1, [], []), (55, .iload_n 3, 1, [], []), (56, .invokevirtual 216, 3, [3, 32, 4, 0], []), (59, .iinc 3 1, 3, [], []), (62, .goto (-58), 3, [4, 1, 1, 1, 1, 1], []), (65, .return_, 1, [], [])]
def k_X0_beginExchange : List mE := [(0, .aload_n 0, 1, [], []), (1, .getfield 24, 3, [0, 2], []), (4, .iload_n 1, 1, [], []), (5, .aaload, 1, [], []), (6, .astore_n 3, 1, [], []), (7, .aload_n 3, 1, [], []), (8, .getfield 120, 3, [8, 1], []), (11, .astore 4, 2, [], []), (13, .aload_n 3, 1, [], []), (14, .getfield 93, 3, [8, 0], []), (17, .iload_n 2, 1, [], []), (18, .aaload, 1, [], []), (19, .astore 5, 2, [], []), (21, .aload 4, 2, [], []), (23, .iconst 1, 1, [1], []), (24, .putfield 124, 3, [2, 0, 1], []), (27, .aload 4, 2, [], []), (29, .aload 5, 2, [], []), (31, .iconst 0, 1, [0], []), (32, .iconst 0, 1, [0], []), (33, .invokevirtual 219, 3, [3, 49, 3, 1], []), (36, .putfield 188, 3, [2, 1], []), (39, .aload 4, 2, [], []), (41, .iload_n 2, 1, [], []), (42, .putfield 223, 3, [2, 2], []), (45, .aload 4, 2, [], []), (47, .aload 5, 2, [], []), (49, .aload_n 0, 1, [], []), (50, .getfield 9, 3, [0, 0], []), (53, .iconst 1, 1, [1], []), (54, .iaload, 1, [], []), (55, .invokevirtual 226, 3, [2, 53, 4, 1], []), (58, .putfield 229, 3, [2, 3], []), (61, .aload 4, 2, [], []), (63, .iconst 0, 1, [0], []), (64, .putfield 231, 3, [2, 4], []), (67, .iconst 0, 1, [0], []), (68, .istore 6, 2, [], []), (70, .iload 6, 2, [], [1, 1, 0, 1, 1, 0, 1]), (72, .aload 4, 2, [], []), (74, .getfield 229, 3, [2, 3], []), (77, .if_icmp .ge 25, 3, [102, 0], []), (80, .aload 4, 2, [], []), (82, .dup, 1, [], []), (83, .getfield 231, 3, [2, 4], []), (86, .aload_n 3, 1, [], []), (87, .iload 6, 2, [], []), (89, .invokestatic 234, 3, [2, 17, 5, 1], []), (92, .iadd, 1, [], []), (93, .putfield 231, 3, [2, 4], []), (96, .iinc 6 1, 3, [], []), (99, .goto (-29), 3, [70, 1, 1, 1, 0, 1, 1, 0, 1], []), (102, .aload 4, 2, [], []), (104, .getfield 231, 3, [2, 4], []), (107, .aload_n 0, 1, [], []), (108, .getfield 9, 3, [0, 0], []), (111, .iconst 0, 1, [0], []), (112, .iaload, 1, [], []), (113, .if_icmp .lt 7, 3, [120, 0], []), (116, .iconst 1, 1, [1], []), (117, .goto 4, 3, [121, 0], []), (120, .iconst 0, 1, [0], []), (121, .istore 6, 2, [], []), (123, .aload 4, 2, [], []), (125, .iload 6, 2, [], []), (127, .ifCond .eq 7, 3, [134, 0], []), (130, .iconst 0, 1, [0], []), (131, .goto 4, 3, [135, 0], []), (134, .iconst 2, 1, [2], []), (135, .putfield 191, 3, [2, 5], []), (138, .aload 4, 2, [], []), (140, .iload 6, 2, [], []), (142, .ifCond .eq 7, 3, [149, 0], []), (145, .iconst 1, 1, [1], []), (146, .goto 8, 3, [154, 0], []), (149, .aload 4, 2, [], []), (151, .getfield 231, 3, [2, 4], []), (154, .putfield 238, 3, [2, 6], [1, 1, 0, 1, 1, 0, 1]), (157, .aload 4, 2, [], []), (159, .aload_n 0, 1, [], []), (160, .getfield 49, 3, [0, 4], []), (163, .aload 4, 2, [], []), (165, .getfield 231, 3, [2, 4], []), (168, .iadd, 1, [], []), (169, .iload 6, 2, [], []), (171, .ifCond .eq 7, 3, [178, 0], []), (174, .iconst 3, 1, [3], []), (175, .goto 4, 3, [179, 0], []), (178, .iconst 1, 1, [1], []), (179, .iadd, 1, [], []), (180, .putfield 241, 3, [2, 8], []), (183, .aload 4, 2, [], []), (185, .iconst 0, 1, [0], []), (186, .putfield 244, 3, [2, 7], []), (189, .aload 4, 2, [], []), (191, .iconst 0, 1, [0], []), (192, .putfield 247, 3, [2, 9], []), (195, .aload 4, 2, [], []), (197, .iconst 0, 1, [0], []), (198, .putfield 250, 3, [2, 10], []), (201, .aload 4, 2, [], []), (203, .aload_n 3, 1, [], []), (204, .iconst 0, 1, [0], []), (205, .invokestatic 234, 3, [2, 17, 5, 1], []), (208, .putfield 253, 3, [2, 11], []), (211, .aload 4, 2, [], []), (213, .iconst 0, 1, [0], []), (214, .putfield 256, 3, [2, 12, 1], []), (217, .aload_n 3, 1, [], []), (218, .getfield 133, 3, [8, 2], []), (221, .getfield 142, 3, [3, 0], []), (224, .iconst 3, 1, [3], []), (225, .dup2, 1, [], []), (226, .iaload, 1, [], []), (227, .iconst 1, 1, [1], []), (228, .iadd, 1, [], []), (229, .iastore, 1, [], []), (230, .aload_n 0, 1, [], []), (231, .dup, 1, [], []), (232, .getfield 61, 3, [0, 8], []), (235, .iconst 1, 1, [1], []), (236, .iload_n 1, 1, [], []), (237, .ishl, 1, [], []), (238, .ior, 1, [], []), (239, .putfield 61, 3, [0, 8], []), (242, .return_, 1, [], [])]
def k_X0_placesOf : List mE := [(0, .aload_n 0, 1, [], []), (1, .getfield 120, 3, [8, 1], []), (4, .astore_n 2, 1, [], []), (5, .aload_n 2, 1, [], []), (6, .getfield 188, 3, [2, 1], []), (9, .ifCond .lt 27, 3, [36, 0], []), (12, .aload_n 2, 1, [], []), (13, .getfield 188, 3, [2, 1], []), (16, .bipush 6, 2, [6], []), (18, .if_icmp .ge 18, 3, [36, 0], []), (21, .aload_n 2, 1, [], []), (22, .getfield 223, 3, [2, 2], []), (25, .ifCond .lt 11, 3, [36, 0], []), (28, .aload_n 2, 1, [], []), (29, .getfield 223, 3, [2, 2], []), (32, .iconst 4, 1, [4], []), (33, .if_icmp .lt 5, 3, [38, 0], []), (36, .iconst 0, 1, [0], []), (37, .ireturn, 1, [], []), (38, .iconst 1, 1, [1], []), (39, .aload_n 0, 1, [], []), (40, .getfield 87, 3, [8, 4], []), (43, .aload_n 2, 1, [], []), (44, .getfield 188, 3, [2, 1], []), (47, .iaload, 1, [], []), (48, .invokestatic 259, 3, [1000], []), (51, .istore_n 3, 1, [], []), (52, .iconst 0, 1, [0], []), (53, .aload_n 0, 1, [], []), (54, .getfield 93, 3, [8, 0], []), (57, .aload_n 2, 1, [], []), (58, .getfield 223, 3, [2, 2], []), (61, .aaload, 1, [], []), (62, .iload_n 1, 1, [], []), (63, .iconst 1, 1, [1], []), (64, .invokevirtual 219, 3, [3, 49, 3, 1], []), (67, .invokestatic 259, 3, [1000], []), (70, .istore 4, 2, [], []), (72, .iload 4, 2, [], []), (74, .iload_n 3, 1, [], []), (75, .iadd, 1, [], []), (76, .iconst 1, 1, [1], []), (77, .isub, 1, [], []), (78, .iload_n 3, 1, [], []), (79, .idiv, 1, [], []), (80, .ireturn, 1, [], [])]
def k_X0_senders : List mE := [(0, .iconst 0, 1, [0], []), (1, .istore_n 1, 1, [], []), (2, .iconst 0, 1, [0], []), (3, .istore_n 2, 1, [], []), (4, .iload_n 2, 1, [], [1, 1, 1, 0]), (5, .aload_n 0, 1, [], []), (6, .getfield 42, 3, [0, 3], []), (9, .if_icmp .ge 43, 3, [52, 0], []), (12, .aload_n 0, 1, [], []), (13, .getfield 24, 3, [0, 2], []), (16, .iload_n 2, 1, [], []), (17, .aaload, 1, [], []), (18, .astore_n 3, 1, [], []), (19, .iload_n 1, 1, [], []), (20, .aload_n 3, 1, [], []), (21, .getfield 120, 3, [8, 1], []), (24, .invokevirtual 264, 3, [1, 36, 1, 1], []), (27, .ifCond .ne 10, 3, [37, 0], []), (30, .aload_n 3, 1, [], []), (31, .getfield 267, 3, [8, 12], []), (34, .ifCond .eq 9, 3, [43, 0], []), (37, .iconst 1, 1, [1], []), (38, .iload_n 2, 1, [], []), (39, .ishl, 1, [], []), (40, .goto 4, 3, [44, 0], []), (43, .iconst 0, 1, [0], []), (44, .ior, 1, [], []), (45, .istore_n 1, 1, [], []), (46, .iinc 2 1, 3, [], []), (49, .goto (-45), 3, [4, 1, 1, 1, 1, 0], []), (52, .iload_n 1, 1, [], []), (53, .ireturn, 1, [], [])]
def k_X0_sendsNow : List mE := [(0, .aload_n 0, 1, [], []), (1, .getfield 52, 3, [0, 5], []), (4, .iload_n 1, 1, [], []), (5, .ishr, 1, [], []), (6, .iconst 1, 1, [1], []), (7, .iand, 1, [], []), (8, .ifCond .eq 7, 3, [15, 0], []), (11, .iconst 1, 1, [1], []), (12, .goto 4, 3, [16, 0], []), (15, .iconst 0, 1, [0], []), (16, .ireturn, 1, [1], [])]
def k_X0_isClear : List mE := [(0, .aload_n 0, 1, [], []), (1, .iload_n 1, 1, [], []), (2, .invokevirtual 270, 3, [2, 19, 2, 1], []), (5, .ifCond .ne 27, 3, [32, 0], []), (8, .aload_n 0, 1, [], []), (9, .getfield 24, 3, [0, 2], []), (12, .iload_n 1, 1, [], []), (13, .aaload, 1, [], []), (14, .getfield 81, 3, [8, 6], []), (17, .aload_n 0, 1, [], []), (18, .getfield 52, 3, [0, 5], []), (21, .iand, 1, [], []), (22, .iconst 1, 1, [1], []), (23, .iload_n 2, 1, [], []), (24, .ishl, 1, [], []), (25, .if_icmp .ne 7, 3, [32, 0], []), (28, .iconst 1, 1, [1], []), (29, .goto 4, 3, [33, 0], []), (32, .iconst 0, 1, [0], []), (33, .ireturn, 1, [1], [])]
def k_X0_clearOnes : List mE := [(0, .iconst 0, 1, [0], []), (1, .istore_n 1, 1, [], []), (2, .iconst 0, 1, [0], []), (3, .istore_n 2, 1, [], []), (4, .iload_n 2, 1, [], [1, 1, 1, 0]), (5, .aload_n 0, 1, [], []), (6, .getfield 42, 3, [0, 3], []), (9, .if_icmp .ge 58, 3, [67, 0], []), (12, .aload_n 0, 1, [], []), (13, .getfield 24, 3, [0, 2], []), (16, .iload_n 2, 1, [], []), (17, .aaload, 1, [], []), (18, .getfield 81, 3, [8, 6], []), (21, .aload_n 0, 1, [], []), (22, .getfield 52, 3, [0, 5], []), (25, .iand, 1, [], []), (26, .invokestatic 273, 3, [1, 218, 1, 1], []), (29, .iconst 1, 1, [1], []), (30, .if_icmp .ne 7, 3, [37, 0], []), (33, .iconst 1, 1, [1], []), (34, .goto 4, 3, [38, 0], []), (37, .iconst 0, 1, [0], []), (38, .istore_n 3, 1, [], []), (39, .iload_n 1, 1, [], []), (40, .iload_n 3, 1, [], []), (41, .ifCond .eq 17, 3, [58, 0], []), (44, .aload_n 0, 1, [], []), (45, .iload_n 2, 1, [], []), (46, .invokevirtual 270, 3, [2, 19, 2, 1], []), (49, .ifCond .ne 9, 3, [58, 0], []), (52, .iconst 1, 1, [1], []), (53, .iload_n 2, 1, [], []), (54, .ishl, 1, [], []), (55, .goto 4, 3, [59, 0], []), (58, .iconst 0, 1, [0], []), (59, .ior, 1, [], []), (60, .istore_n 1, 1, [], []), (61, .iinc 2 1, 3, [], []), (64, .goto (-60), 3, [4, 1, 1, 1, 1, 0], []), (67, .iload_n 1, 1, [], []), (68, .ireturn, 1, [], [])]
def k_X0_noteSlot : List mE := [(0, .aload_n 0, 1, [], []), (1, .getfield 52, 3, [0, 5], []), (4, .invokestatic 273, 3, [1, 218, 1, 1], []), (7, .istore_n 1, 1, [], []), (8, .aload_n 0, 1, [], []), (9, .dup, 1, [], []), (10, .getfield 67, 3, [0, 10], []), (13, .iload_n 1, 1, [], []), (14, .ifCond .ne 7, 3, [21, 0], []), (17, .iconst 1, 1, [1], []), (18, .goto 4, 3, [22, 0], []), (21, .iconst 0, 1, [0], []), (22, .iadd, 1, [], []), (23, .putfield 67, 3, [0, 10], []), (26, .aload_n 0, 1, [], []), (27, .dup, 1, [], []), (28, .getfield 64, 3, [0, 9], []), (31, .iload_n 1, 1, [], []), (32, .iconst 1, 1, [1], []), (33, .if_icmp .ne 7, 3, [40, 0], []), (36, .iconst 1, 1, [1], []), (37, .goto 4, 3, [41, 0], []), (40, .iconst 0, 1, [0], []), (41, .iadd, 1, [], []), (42, .putfield 64, 3, [0, 9], []), (45, .aload_n 0, 1, [], []), (46, .dup, 1, [], []), (47, .getfield 70, 3, [0, 11], []), (50, .iload_n 1, 1, [], []), (51, .iconst 1, 1, [1], []), (52, .if_icmp .le 7, 3, [59, 0], []), (55, .iconst 1, 1, [1], []), (56, .goto 4, 3, [60, 0], []), (59, .iconst 0, 1, [0], []), (60, .iadd, 1, [], []), (61, .putfield 70, 3, [0, 11], []), (64, .iconst 0, 1, [0], []), (65, .istore_n 2, 1, [], []), (66, .iload_n 2, 1, [], [1, 0, 1, 0]), (67, .aload_n 0, 1, [], []), (68, .getfield 42, 3, [0, 3], []), (71, .if_icmp .ge 123, 3, [194, 0], []), (74, .aload_n 0, 1, [], []), (75, .getfield 24, 3, [0, 2], []), (78, .iload_n 2, 1, [], []), (79, .aaload, 1, [], []), (80, .astore_n 3, 1, [], []), (81, .aload_n 3, 1, [], []), (82, .getfield 133, 3, [8, 2], []), (85, .getfield 142, 3, [3, 0], []), (88, .iconst 5, 1, [5], []), (89, .dup2, 1, [], []), (90, .iaload, 1, [], []), (91, .aload_n 0, 1, [], []), (92, .iload_n 2, 1, [], []), (93, .invokevirtual 270, 3, [2, 19, 2, 1], []), (96, .ifCond .eq 7, 3, [103, 0], []), (99, .iconst 1, 1, [1], []), (100, .goto 4, 3, [104, 0], []), (103, .iconst 0, 1, [0], []), (104, .iadd, 1, [], []), (105, .iastore, 1, [], []), (106, .aload_n 3, 1, [], []), (107, .invokevirtual 171, 3, [1, 60, 1, 1], []), (110, .ifCond .eq 78, 3, [188, 0], []), (113, .aload_n 3, 1, [], []), (114, .invokevirtual 145, 3, [1, 61, 3, 1], []), (117, .ifCond .le 71, 3, [188, 0], []), (120, .aload_n 0, 1, [], []), (121, .getfield 58, 3, [0, 7], []), (124, .iload_n 2, 1, [], []), (125, .ishr, 1, [], []), (126, .iconst 1, 1, [1], []), (127, .iand, 1, [], []), (128, .ifCond .eq 19, 3, [147, 0], []), (131, .aload_n 3, 1, [], []), (132, .getfield 133, 3, [8, 2], []), (135, .dup, 1, [], []), (136, .getfield 278, 3, [3, 6], []), (139, .iconst 1, 1, [1], []), (140, .iadd, 1, [], []), (141, .putfield 278, 3, [3, 6], []), (144, .goto 44, 3, [188, 0], []), (147, .aload_n 3, 1, [], []), (148, .getfield 81, 3, [8, 6], []), (151, .aload_n 0, 1, [], []), (152, .getfield 52, 3, [0, 5], []), (155, .iand, 1, [], []), (156, .ifCond .eq 19, 3, [175, 0], []), (159, .aload_n 3, 1, [], []), (160, .getfield 133, 3, [8, 2], []), (163, .dup, 1, [], []), (164, .getfield 281, 3, [3, 7], []), (167, .iconst 1, 1, [1], []), (168, .iadd, 1, [], []), (169, .putfield 281, 3, [3, 7], []), (172, .goto 16, 3, [188, 0], []), (175, .aload_n 3, 1, [], []), (176, .getfield 133, 3, [8, 2], []), (179, .dup, 1, [], []), (180, .getfield 284, 3, [3, 8], []), (183, .iconst 1, 1, [1], []), (184, .iadd, 1, [], []), (185, .putfield 284, 3, [3, 8], []), (188, .iinc 2 1, 3, [], []), (191, .goto (-125), 3, [66, 1, 1, 0, 1, 0], []), (194, .return_, 1, [], [])]
def k_X0_spread : List mE := [(0, .iconst 0, 1, [0], []), (1, .istore 6, 2, [], []), (3, .iload 6, 2, [], [1, 1, 1, 1, 1, 1, 1]), (5, .aload_n 0, 1, [], []), (6, .getfield 42, 3, [0, 3], []), (9, .if_icmp .ge 40, 3, [49, 0], []), (12, .iload 6, 2, [], []), (14, .iload_n 2, 1, [], []), (15, .if_icmp .eq 28, 3, [43, 0], []), (18, .aload_n 0, 1, [], []), (19, .iload 6, 2, [], []), (21, .iload_n 1, 1, [], []), (22, .invokevirtual 287, 3, [3, 20, 3, 1], []), (25, .ifCond .eq 18, 3, [43, 0], []), (28, .aload_n 0, 1, [], []), (29, .getfield 24, 3, [0, 2], []), (32, .iload 6, 2, [], []), (34, .aaload, 1, [], []), (35, .iload_n 3, 1, [], []), (36, .iload 4, 2, [], []), (38, .iload 5, 2, [], []), (40, .invokevirtual 290, 3, [4, 64, 4, 0], []), (43, .iinc 6 1, 3, [], []), (46, .goto (-43), 3, [3, 1, 1, 1, 1, 1, 1, 1, 1], []), (49, .return_, 1, [], [])]
def k_X0_goAsk : List mE := [(0, .aload_n 0, 1, [], []), (1, .iload_n 2, 1, [], []), (2, .iload_n 1, 1, [], []), (3, .invokevirtual 287, 3, [3, 20, 3, 1], []), (6, .ifCond .ne 11, 3, [17, 0], []), (9, .aload_n 3, 1, [], []), (10, .iconst 1, 1, [1], []), (11, .putfield 247, 3, [2, 9], []), (14, .goto 58, 3, [72, 0], []), (17, .aload_n 0, 1, [], []), (18, .getfield 24, 3, [0, 2], []), (21, .iload_n 2, 1, [], []), (22, .aaload, 1, [], []), (23, .invokevirtual 171, 3, [1, 60, 1, 1], []), (26, .ifCond .ne 11, 3, [37, 0], []), (29, .aload_n 3, 1, [], []), (30, .iconst 2, 1, [2], []), (31, .putfield 247, 3, [2, 9], []), (34, .goto 38, 3, [72, 0], []), (37, .aload_n 0, 1, [], []), (38, .getfield 24, 3, [0, 2], []), (41, .iload_n 2, 1, [], []), (42, .aaload, 1, [], []), (43, .getfield 111, 3, [8, 8], []), (46, .aload_n 0, 1, [], []), (47, .getfield 49, 3, [0, 4], []), (50, .if_icmp .le 11, 3, [61, 0], []), (53, .aload_n 3, 1, [], []), (54, .iconst 3, 1, [3], []), (55, .putfield 247, 3, [2, 9], []), (58, .goto 14, 3, [72, 0], []), (61, .aload_n 0, 1, [], []), (62, .getfield 24, 3, [0, 2], []), (65, .iload_n 2, 1, [], []), (66, .aaload, 1, [], []), (67, .iload_n 1, 1, [], []), (68, .iconst 1, 1, [1], []), (69, .invokevirtual 129, 3, [3, 62, 3, 0], []), (72, .aload_n 0, 1, [], []), (73, .iload_n 1, 1, [], []), (74, .iload_n 2, 1, [], []), (75, .iload_n 1, 1, [], []), (76, .iconst 0, 1, [0], []), (77, .aload_n 3, 1, [], []), (78, .getfield 241, 3, [2, 8], []), (81, .invokevirtual 293, 3, [6, 23, 7, 0], []), (84, .aload_n 3, 1, [], []), (85, .iconst 1, 1, [1], []), (86, .putfield 191, 3, [2, 5], []), (89, .return_, 1, [], [])]
def k_X0_goGrant : List mE := [(0, .aload_n 0, 1, [], []), (1, .getfield 24, 3, [0, 2], []), (4, .iload_n 2, 1, [], []), (5, .aaload, 1, [], []), (6, .iload_n 1, 1, [], []), (7, .iconst 1, 1, [1], []), (8, .invokevirtual 297, 3, [3, 63, 3, 1], []), (11, .istore 4, 2, [], []), (13, .iload 4, 2, [], []), (15, .ifCond .eq 40, 3, [55, 0], []), (18, .aload_n 0, 1, [], []), (19, .iload_n 1, 1, [], []), (20, .iload_n 2, 1, [], []), (21, .invokevirtual 287, 3, [3, 20, 3, 1], []), (24, .ifCond .eq 31, 3, [55, 0], []), (27, .aload_n 3, 1, [], []), (28, .iconst 2, 1, [2], []), (29, .putfield 191, 3, [2, 5], []), (32, .aload_n 3, 1, [], []), (33, .aload_n 3, 1, [], []), (34, .getfield 231, 3, [2, 4], []), (37, .putfield 238, 3, [2, 6], []), (40, .aload_n 0, 1, [], []), (41, .iload_n 2, 1, [], []), (42, .iload_n 1, 1, [], []), (43, .iload_n 1, 1, [], []), (44, .iconst 1, 1, [1], []), (45, .aload_n 3, 1, [], []), (46, .getfield 241, 3, [2, 8], []), (49, .invokevirtual 293, 3, [6, 23, 7, 0], []), (52, .goto 26, 3, [78, 0], []), (55, .aload_n 3, 1, [], []), (56, .iload 4, 2, [], []), (58, .ifCond .eq 7, 3, [65, 0], []), (61, .iconst 4, 1, [4], []), (62, .goto 7, 3, [69, 0], []), (65, .aload_n 3, 1, [], []), (66, .getfield 247, 3, [2, 9], []), (69, .putfield 247, 3, [2, 9], []), (72, .aload_n 0, 1, [], []), (73, .iload_n 1, 1, [], []), (74, .aload_n 3, 1, [], []), (75, .invokevirtual 300, 3, [3, 31, 4, 0], []), (78, .return_, 1, [], [])]
def k_X0_goData : List mE := [(0, .aload_n 0, 1, [], []), (1, .iload_n 2, 1, [], []), (2, .iload_n 1, 1, [], []), (3, .invokevirtual 287, 3, [3, 20, 3, 1], []), (6, .istore 4, 2, [], []), (8, .aload_n 0, 1, [], []), (9, .getfield 24, 3, [0, 2], []), (12, .iload_n 1, 1, [], []), (13, .aaload, 1, [], []), (14, .getfield 133, 3, [8, 2], []), (17, .dup, 1, [], []), (18, .getfield 304, 3, [3, 2], []), (21, .iconst 1, 1, [1], []), (22, .iadd, 1, [], []), (23, .putfield 304, 3, [3, 2], []), (26, .iload 4, 2, [], []), (28, .ifCond .ne 29, 3, [57, 0], []), (31, .aload_n 0, 1, [], []), (32, .getfield 24, 3, [0, 2], []), (35, .iload_n 1, 1, [], []), (36, .aaload, 1, [], []), (37, .getfield 133, 3, [8, 2], []), (40, .aload_n 0, 1, [], []), (41, .getfield 24, 3, [0, 2], []), (44, .iload_n 2, 1, [], []), (45, .aaload, 1, [], []), (46, .getfield 81, 3, [8, 6], []), (49, .aload_n 0, 1, [], []), (50, .getfield 52, 3, [0, 5], []), (53, .iand, 1, [], []), (54, .invokestatic 307, 3, [2, 27, 3, 0], []), (57, .aload_n 0, 1, [], []), (58, .getfield 24, 3, [0, 2], []), (61, .iload_n 1, 1, [], []), (62, .aaload, 1, [], []), (63, .iload 4, 2, [], []), (65, .invokestatic 311, 3, [2, 28, 3, 0], []), (68, .aload_n 3, 1, [], []), (69, .dup, 1, [], []), (70, .getfield 238, 3, [2, 6], []), (73, .iconst 1, 1, [1], []), (74, .isub, 1, [], []), (75, .putfield 238, 3, [2, 6], []), (78, .aload_n 3, 1, [], []), (79, .getfield 238, 3, [2, 6], []), (82, .ifCond .le 4, 3, [86, 0], []), (85, .return_, 1, [], []), (86, .aload_n 0, 1, [], []), (87, .iload_n 1, 1, [], []), (88, .iload_n 2, 1, [], []), (89, .iload_n 1, 1, [], []), (90, .iconst 2, 1, [2], []), (91, .aload_n 0, 1, [], []), (92, .getfield 49, 3, [0, 4], []), (95, .iconst 2, 1, [2], []), (96, .iadd, 1, [], []), (97, .invokevirtual 293, 3, [6, 23, 7, 0], []), (100, .aload_n 3, 1, [], []), (101, .getfield 244, 3, [2, 7], []), (104, .ifCond .ne 11, 3, [115, 0], []), (107, .aload_n 3, 1, [], []), (108, .iconst 5, 1, [5], []), (109, .putfield 247, 3, [2, 9], []), (112, .goto 35, 3, [147, 0], []), (115, .aload_n 0, 1, [], []), (116, .getfield 24, 3, [0, 2], []), (119, .iload_n 2, 1, [], []), (120, .aaload, 1, [], []), (121, .invokevirtual 171, 3, [1, 60, 1, 1], []), (124, .ifCond .ne 12, 3, [136, 0], []), (127, .aload_n 3, 1, [], []), (128, .bipush 6, 2, [6], []), (130, .putfield 247, 3, [2, 9], []), (133, .goto 14, 3, [147, 0], []), (136, .aload_n 0, 1, [], []), (137, .getfield 24, 3, [0, 2], []), (140, .iload_n 2, 1, [], []), (141, .aaload, 1, [], []), (142, .iload_n 1, 1, [], []), (143, .iconst 2, 1, [2], []), (144, .invokevirtual 129, 3, [3, 62, 3, 0], []), (147, .aload_n 3, 1, [], []), (148, .iconst 3, 1, [3], []), (149, .putfield 191, 3, [2, 5], []), (152, .return_, 1, [], [])]
def k_X0_noteSpoilt : List mE := [(0, .iconst 0, 1, [0], []), (1, .istore_n 2, 1, [], []), (2, .iload_n 2, 1, [], [1, 1, 1]), (3, .bipush 6, 2, [6], []), (5, .if_icmp .ge 31, 3, [36, 0], []), (8, .aload_n 0, 1, [], []), (9, .getfield 315, 3, [3, 1], []), (12, .iload_n 2, 1, [], []), (13, .dup2, 1, [], []), (14, .iaload, 1, [], []), (15, .iload_n 1, 1, [], []), (16, .iload_n 2, 1, [], []), (17, .ishr, 1, [], []), (18, .iconst 1, 1, [1], []), (19, .iand, 1, [], []), (20, .ifCond .eq 7, 3, [27, 0], []), (23, .iconst 1, 1, [1], []), (24, .goto 4, 3, [28, 0], []), (27, .iconst 0, 1, [0], []), (28, .iadd, 1, [], []), (29, .iastore, 1, [], []), (30, .iinc 2 1, 3, [], []), (33, .goto (-31), 3, [2, 1, 1, 1, 1], []), (36, .return_, 1, [], [])]
def k_X0_goPlace : List mE := [(0, .aload_n 0, 1, [], []), (1, .getfield 120, 3, [8, 1], []), (4, .astore_n 2, 1, [], []), (5, .iload_n 1, 1, [], []), (6, .ifCond .eq 24, 3, [30, 0], []), (9, .aload_n 0, 1, [], []), (10, .getfield 84, 3, [8, 3], []), (13, .aload_n 2, 1, [], []), (14, .getfield 188, 3, [2, 1], []), (17, .iaload, 1, [], []), (18, .aload_n 0, 1, [], []), (19, .getfield 87, 3, [8, 4], []), (22, .aload_n 2, 1, [], []), (23, .getfield 188, 3, [2, 1], []), (26, .iaload, 1, [], []), (27, .if_icmp .ge 8, 3, [35, 0], []), (30, .aload_n 2, 1, [], []), (31, .iconst 1, 1, [1], []), (32, .putfield 256, 3, [2, 12, 1], []), (35, .aload_n 2, 1, [], []), (36, .dup, 1, [], []), (37, .getfield 253, 3, [2, 11], []), (40, .iconst 1, 1, [1], []), (41, .isub, 1, [], []), (42, .putfield 253, 3, [2, 11], []), (45, .aload_n 2, 1, [], []), (46, .getfield 253, 3, [2, 11], []), (49, .ifCond .gt 56, 3, [105, 0], []), (52, .aload_n 2, 1, [], []), (53, .dup, 1, [], []), (54, .getfield 244, 3, [2, 7], []), (57, .aload_n 2, 1, [], []), (58, .getfield 256, 3, [2, 12], []), (61, .ifCond .eq 7, 3, [68, 0], []), (64, .iconst 0, 1, [0], []), (65, .goto 9, 3, [74, 0], []), (68, .iconst 1, 1, [1], []), (69, .aload_n 2, 1, [], []), (70, .getfield 250, 3, [2, 10], []), (73, .ishl, 1, [], []), (74, .ior, 1, [], []), (75, .putfield 244, 3, [2, 7], []), (78, .aload_n 2, 1, [], []), (79, .dup, 1, [], []), (80, .getfield 250, 3, [2, 10], []), (83, .iconst 1, 1, [1], []), (84, .iadd, 1, [], []), (85, .putfield 250, 3, [2, 10], []), (88, .aload_n 2, 1, [], []), (89, .aload_n 0, 1, [], []), (90, .aload_n 2, 1, [], []), (91, .getfield 250, 3, [2, 10], []), (94, .invokestatic 234, 3, [2, 17, 5, 1], []), (97, .putfield 253, 3, [2, 11], []), (100, .aload_n 2, 1, [], []), (101, .iconst 0, 1, [0], []), (102, .putfield 256, 3, [2, 12, 1], []), (105, .return_, 1, [], [])]
def k_X0_goAnswer : List mE := [(0, .aload_n 0, 1, [], []), (1, .getfield 24, 3, [0, 2], []), (4, .iload_n 2, 1, [], []), (5, .aaload, 1, [], []), (6, .iload_n 1, 1, [], []), (7, .iconst 2, 1, [2], []), (8, .invokevirtual 297, 3, [3, 63, 3, 1], []), (11, .istore 4, 2, [], []), (13, .aload_n 0, 1, [], []), (14, .getfield 24, 3, [0, 2], []), (17, .iload_n 1, 1, [], []), (18, .aaload, 1, [], []), (19, .astore 5, 2, [], []), (21, .iload 4, 2, [], []), (23, .ifCond .eq 76, 3, [99, 0], []), (26, .aload_n 0, 1, [], []), (27, .iload_n 1, 1, [], []), (28, .iload_n 2, 1, [], []), (29, .invokevirtual 287, 3, [3, 20, 3, 1], []), (32, .ifCond .eq 67, 3, [99, 0], []), (35, .aload_n 3, 1, [], []), (36, .iconst 0, 1, [0], []), (37, .putfield 124, 3, [2, 0, 1], []), (40, .aload_n 0, 1, [], []), (41, .iload_n 1, 1, [], []), (42, .aload_n 3, 1, [], []), (43, .invokevirtual 318, 3, [3, 30, 7, 0], []), (46, .aload 5, 2, [], []), (48, .getfield 90, 3, [8, 5], []), (51, .iload_n 2, 1, [], []), (52, .dup2, 1, [], []), (53, .iaload, 1, [], []), (54, .iconst 1, 1, [1], []), (55, .iadd, 1, [], []), (56, .iastore, 1, [], []), (57, .aload 5, 2, [], []), (59, .getfield 90, 3, [8, 5], []), (62, .iload_n 2, 1, [], []), (63, .iaload, 1, [], []), (64, .iconst 3, 1, [3], []), (65, .if_icmp .lt 86, 3, [151, 0], []), (68, .aload 5, 2, [], []), (70, .getfield 87, 3, [8, 4], []), (73, .iload_n 2, 1, [], []), (74, .iconst 3, 1, [3], []), (75, .aload 5, 2, [], []), (77, .getfield 87, 3, [8, 4], []), (80, .iload_n 2, 1, [], []), (81, .iaload, 1, [], []), (82, .iconst 1, 1, [1], []), (83, .iadd, 1, [], []), (84, .invokestatic 321, 3, [1001], []), (87, .iastore, 1, [], []), (88, .aload 5, 2, [], []), (90, .getfield 90, 3, [8, 5], []), (93, .iload_n 2, 1, [], []), (94, .iconst 0, 1, [0], []), (95, .iastore, 1, [], []), (96, .goto 55, 3, [151, 0], []), (99, .aload_n 3, 1, [], []), (100, .iload 4, 2, [], []), (102, .ifCond .eq 8, 3, [110, 0], []), (105, .bipush 7, 2, [7], []), (107, .goto 7, 3, [114, 0], []), (110, .aload_n 3, 1, [], []), (111, .getfield 247, 3, [2, 9], []), (114, .putfield 247, 3, [2, 9], []), (117, .aload_n 0, 1, [], []), (118, .iload_n 1, 1, [], []), (119, .aload_n 3, 1, [], []), (120, .invokevirtual 300, 3, [3, 31, 4, 0], []), (123, .aload 5, 2, [], []), (125, .getfield 87, 3, [8, 4], []), (128, .iload_n 2, 1, [], []), (129, .iconst 1, 1, [1], []), (130, .aload 5, 2, [], []), (132, .getfield 87, 3, [8, 4], []), (135, .iload_n 2, 1, [], []), (136, .iaload, 1, [], []), (137, .iconst 1, 1, [1], []), (138, .isub, 1, [], []), (139, .invokestatic 259, 3, [1000], []), (142, .iastore, 1, [], []), (143, .aload 5, 2, [], []), (145, .getfield 90, 3, [8, 5], []), (148, .iload_n 2, 1, [], []), (149, .iconst 0, 1, [0], []), (150, .iastore, 1, [], []), (151, .return_, 1, [], [])]
def k_X0_deliver : List mE := [(0, .aload_n 0, 1, [], []), (1, .getfield 24, 3, [0, 2], []), (4, .iload_n 1, 1, [], []), (5, .aaload, 1, [], []), (6, .astore_n 3, 1, [], []), (7, .aload_n 3, 1, [], []), (8, .getfield 93, 3, [8, 0], []), (11, .aload_n 2, 1, [], []), (12, .getfield 223, 3, [2, 2], []), (15, .aaload, 1, [], []), (16, .astore 4, 2, [], []), (18, .aload_n 2, 1, [], []), (19, .getfield 229, 3, [2, 3], []), (22, .iconst 1, 1, [1], []), (23, .isub, 1, [], []), (24, .istore 5, 2, [], []), (26, .iload 5, 2, [], [1, 0, 1, 1, 1, 1, 0]), (28, .ifCond .lt 127, 3, [155, 0], []), (31, .aload_n 2, 1, [], []), (32, .getfield 244, 3, [2, 7], []), (35, .iload 5, 2, [], []), (37, .ishr, 1, [], []), (38, .iconst 1, 1, [1], []), (39, .iand, 1, [], []), (40, .ifCond .eq 73, 3, [113, 0], []), (43, .aload_n 0, 1, [], []), (44, .getfield 49, 3, [0, 4], []), (47, .aload 4, 2, [], []), (49, .iload 5, 2, [], []), (51, .iconst 3, 1, [3], []), (52, .invokevirtual 219, 3, [3, 49, 3, 1], []), (55, .isub, 1, [], []), (56, .iconst 1, 1, [1], []), (57, .iadd, 1, [], []), (58, .istore 6, 2, [], []), (60, .aload_n 3, 1, [], []), (61, .getfield 133, 3, [8, 2], []), (64, .aload 4, 2, [], []), (66, .iload 5, 2, [], []), (68, .iconst 1, 1, [1], []), (69, .invokevirtual 219, 3, [3, 49, 3, 1], []), (72, .iload 6, 2, [], []), (74, .invokevirtual 324, 3, [3, 39, 3, 0], []), (77, .aload_n 0, 1, [], []), (78, .dup, 1, [], []), (79, .getfield 73, 3, [0, 12], []), (82, .aload 4, 2, [], []), (84, .iload 5, 2, [], []), (86, .iconst 4, 1, [4], []), (87, .invokevirtual 219, 3, [3, 49, 3, 1], []), (90, .iconst 1, 1, [1], []), (91, .if_icmp .ne 7, 3, [98, 0], []), (94, .iconst 1, 1, [1], []), (95, .goto 4, 3, [99, 0], []), (98, .iconst 0, 1, [0], []), (99, .ior, 1, [], []), (100, .putfield 73, 3, [0, 12, 1], []), (103, .aload 4, 2, [], []), (105, .iload 5, 2, [], []), (107, .invokevirtual 327, 3, [2, 52, 3, 0], []), (110, .goto 39, 3, [149, 0], []), (113, .aload 4, 2, [], []), (115, .iload 5, 2, [], []), (117, .invokevirtual 330, 3, [2, 51, 2, 1], []), (120, .aload_n 0, 1, [], []), (121, .getfield 9, 3, [0, 0], []), (124, .iconst 2, 1, [2], []), (125, .iaload, 1, [], []), (126, .if_icmp .lt 23, 3, [149, 0], []), (129, .aload_n 3, 1, [], []), (130, .getfield 133, 3, [8, 2], []), (133, .getfield 142, 3, [3, 0], []), (136, .iconst 2, 1, [2], []), (137, .dup2, 1, [], []), (138, .iaload, 1, [], []), (139, .iconst 1, 1, [1], []), (140, .iadd, 1, [], []), (141, .iastore, 1, [], []), (142, .aload 4, 2, [], []), (144, .iload 5, 2, [], []), (146, .invokevirtual 327, 3, [2, 52, 3, 0], []), (149, .iinc 5 (-1), 3, [], []), (152, .goto (-126), 3, [26, 1, 1, 0, 1, 1, 1, 1, 0], []), (155, .aload 4, 2, [], []), (157, .aload_n 0, 1, [], []), (158, .getfield 9, 3, [0, 0], []), (161, .bipush 7, 2, [7], []), (163, .aload_n 2, 1, [], []), (164, .getfield 223, 3, [2, 2], []), (167, .iadd, 1, [], []), (168, .iaload, 1, [], []), (169, .putfield 105, 3, [6, 2], []), (172, .aload 4, 2, [], []), (174, .aload_n 0, 1, [], []), (175, .getfield 18, 3, [0, 1], []), (178, .aload 4, 2, [], []), (180, .getfield 105, 3, [6, 2], []), (183, .iconst 1, 1, [1], []), (184, .iadd, 1, [], []), (185, .invokevirtual 164, 3, [2, 34, 2, 1], []), (188, .putfield 102, 3, [6, 3], []), (191, .return_, 1, [], [])]
def k_X0_failExchange : List mE := [(0, .aload_n 2, 1, [], []), (1, .iconst 0, 1, [0], []), (2, .putfield 124, 3, [2, 0, 1], []), (5, .aload_n 0, 1, [], []), (6, .getfield 24, 3, [0, 2], []), (9, .iload_n 1, 1, [], []), (10, .aaload, 1, [], []), (11, .getfield 133, 3, [8, 2], []), (14, .astore_n 3, 1, [], []), (15, .aload_n 3, 1, [], []), (16, .getfield 142, 3, [3, 0], []), (19, .iconst 4, 1, [4], []), (20, .dup2, 1, [], []), (21, .iaload, 1, [], []), (22, .iconst 1, 1, [1], []), (23, .iadd, 1, [], []), (24, .iastore, 1, [], []), (25, .aload_n 3, 1, [], []), (26, .aload_n 2, 1, [], []), (27, .getfield 247, 3, [2, 9], []), (30, .putfield 333, 3, [3, 3], []), (33, .aload_n 3, 1, [], []), (34, .aload_n 0, 1, [], []), (35, .getfield 49, 3, [0, 4], []), (38, .putfield 334, 3, [3, 4], []), (41, .aload_n 3, 1, [], []), (42, .aload_n 2, 1, [], []), (43, .getfield 188, 3, [2, 1], []), (46, .putfield 337, 3, [3, 5], []), (49, .aload_n 0, 1, [], []), (50, .iload_n 1, 1, [], []), (51, .aload_n 2, 1, [], []), (52, .getfield 223, 3, [2, 2], []), (55, .invokevirtual 216, 3, [3, 32, 4, 0], []), (58, .return_, 1, [], [])]
def k_X0_failFirst : List mE := [(0, .aload_n 0, 1, [], []), (1, .getfield 24, 3, [0, 2], []), (4, .iload_n 1, 1, [], []), (5, .aaload, 1, [], []), (6, .getfield 93, 3, [8, 0], []), (9, .iload_n 2, 1, [], []), (10, .aaload, 1, [], []), (11, .astore_n 3, 1, [], []), (12, .aload_n 3, 1, [], []), (13, .iconst 0, 1, [0], []), (14, .invokevirtual 330, 3, [2, 51, 2, 1], []), (17, .aload_n 0, 1, [], []), (18, .getfield 9, 3, [0, 0], []), (21, .iconst 2, 1, [2], []), (22, .iaload, 1, [], []), (23, .if_icmp .lt 42, 3, [65, 0], []), (26, .aload_n 0, 1, [], []), (27, .getfield 24, 3, [0, 2], []), (30, .iload_n 1, 1, [], []), (31, .aaload, 1, [], []), (32, .getfield 133, 3, [8, 2], []), (35, .getfield 142, 3, [3, 0], []), (38, .iconst 2, 1, [2], []), (39, .dup2, 1, [], []), (40, .iaload, 1, [], []), (41, .iconst 1, 1, [1], []), (42, .iadd, 1, [], []), (43, .iastore, 1, [], []), (44, .aload_n 3, 1, [], []), (45, .iconst 0, 1, [0], []), (46, .invokevirtual 327, 3, [2, 52, 3, 0], []), (49, .aload_n 3, 1, [], []), (50, .aload_n 0, 1, [], []), (51, .getfield 9, 3, [0, 0], []), (54, .bipush 7, 2, [7], []), (56, .iload_n 2, 1, [], []), (57, .iadd, 1, [], []), (58, .iaload, 1, [], []), (59, .putfield 105, 3, [6, 2], []), (62, .goto 25, 3, [87, 0], []), (65, .aload_n 3, 1, [], []), (66, .aload_n 0, 1, [], []), (67, .getfield 9, 3, [0, 0], []), (70, .bipush 11, 2, [11], []), (72, .iaload, 1, [], []), (73, .iconst 2, 1, [2], []), (74, .aload_n 3, 1, [], []), (75, .getfield 105, 3, [6, 2], []), (78, .imul, 1, [], []), (79, .iconst 1, 1, [1], []), (80, .iadd, 1, [], []), (81, .invokestatic 321, 3, [1001], []), (84, .putfield 105, 3, [6, 2], []), (87, .aload_n 3, 1, [], []), (88, .aload_n 0, 1, [], []), (89, .getfield 18, 3, [0, 1], []), (92, .aload_n 3, 1, [], []), (93, .getfield 105, 3, [6, 2], []), (96, .iconst 1, 1, [1], []), (97, .iadd, 1, [], []), (98, .invokevirtual 164, 3, [2, 34, 2, 1], []), (101, .putfield 102, 3, [6, 3], []), (104, .return_, 1, [], [])]
def k_X0_settle : List mE := [(0, .aload_n 0, 1, [], []), (1, .getfield 24, 3, [0, 2], []), (4, .iload_n 1, 1, [], []), (5, .aaload, 1, [], []), (6, .astore_n 2, 1, [], []), (7, .aload_n 0, 1, [], []), (8, .iload_n 1, 1, [], []), (9, .invokevirtual 270, 3, [2, 19, 2, 1], []), (12, .ifCond .ne 30, 3, [42, 0], []), (15, .aload_n 2, 1, [], []), (16, .getfield 81, 3, [8, 6], []), (19, .aload_n 0, 1, [], []), (20, .getfield 52, 3, [0, 5], []), (23, .iand, 1, [], []), (24, .ifCond .ne 18, 3, [42, 0], []), (27, .aload_n 0, 1, [], []), (28, .getfield 58, 3, [0, 7], []), (31, .iload_n 1, 1, [], []), (32, .ishr, 1, [], []), (33, .iconst 1, 1, [1], []), (34, .iand, 1, [], []), (35, .ifCond .ne 7, 3, [42, 0], []), (38, .iconst 1, 1, [1], []), (39, .goto 4, 3, [43, 0], []), (42, .iconst 0, 1, [0], []), (43, .istore_n 3, 1, [], []), (44, .aload_n 2, 1, [], []), (45, .iload_n 3, 1, [], []), (46, .ifCond .eq 12, 3, [58, 0], []), (49, .aload_n 2, 1, [], []), (50, .getfield 108, 3, [8, 7], []), (53, .iconst 1, 1, [1], []), (54, .iadd, 1, [], []), (55, .goto 4, 3, [59, 0], []), (58, .iconst 0, 1, [0], []), (59, .putfield 108, 3, [8, 7], []), (62, .iconst 0, 1, [0], []), (63, .istore 4, 2, [], []), (65, .iload 4, 2, [], [1, 0, 1, 0, 1, 0]), (67, .iconst 4, 1, [4], []), (68, .if_icmp .ge 61, 3, [129, 0], []), (71, .aload_n 2, 1, [], []), (72, .getfield 93, 3, [8, 0], []), (75, .iload 4, 2, [], []), (77, .aaload, 1, [], []), (78, .astore 5, 2, [], []), (80, .aload 5, 2, [], []), (82, .getfield 97, 3, [6, 1], []), (85, .ifCond .le 38, 3, [123, 0], []), (88, .aload 5, 2, [], []), (90, .getfield 102, 3, [6, 3], []), (93, .ifCond .le 30, 3, [123, 0], []), (96, .aload_n 2, 1, [], []), (97, .getfield 108, 3, [8, 7], []), (100, .aload_n 0, 1, [], []), (101, .getfield 9, 3, [0, 0], []), (104, .iconst 3, 1, [3], []), (105, .iload 4, 2, [], []), (107, .iadd, 1, [], []), (108, .iaload, 1, [], []), (109, .if_icmp .le 14, 3, [123, 0], []), (112, .aload 5, 2, [], []), (114, .dup, 1, [], []), (115, .getfield 102, 3, [6, 3], []), (118, .iconst 1, 1, [1], []), (119, .isub, 1, [], []), (120, .putfield 102, 3, [6, 3], []), (123, .iinc 4 1, 3, [], []), (126, .goto (-61), 3, [65, 1, 1, 0, 1, 0, 1, 0], []), (129, .return_, 1, [], [])]
def k_X1_draw : List mE := [(0, .aload_n 0, 1, [], []), (1, .aload_n 0, 1, [], []), (2, .getfield 7, 3, [1, 0], []), (5, .ldc 13, 2, [1103515245], []), (7, .imul, 1, [], []), (8, .sipush 12345, 3, [12345], []), (11, .iadd, 1, [], []), (12, .putfield 7, 3, [1, 0], []), (15, .iload_n 1, 1, [], []), (16, .iconst 1, 1, [1], []), (17, .if_icmp .ge 7, 3, [24, 0], []), (20, .iconst 0, 1, [0], []), (21, .goto 12, 3, [33, 0], []), (24, .aload_n 0, 1, [], []), (25, .getfield 7, 3, [1, 0], []), (28, .bipush 16, 2, [16], []), (30, .iushr, 1, [], []), (31, .iload_n 1, 1, [], []), (32, .irem, 1, [], []), (33, .ireturn, 1, [], [])]
def k_X2_become : List mE := [(0, .aload_n 0, 1, [], []), (1, .aload_n 1, 1, [], []), (2, .getfield 9, 3, [2, 0], []), (5, .putfield 9, 3, [2, 0, 1], []), (8, .aload_n 0, 1, [], []), (9, .aload_n 1, 1, [], []), (10, .getfield 15, 3, [2, 1], []), (13, .putfield 15, 3, [2, 1], []), (16, .aload_n 0, 1, [], []), (17, .aload_n 1, 1, [], []), (18, .getfield 19, 3, [2, 2], []), (21, .putfield 19, 3, [2, 2], []), (24, .aload_n 0, 1, [], []), (25, .aload_n 1, 1, [], []), (26, .getfield 22, 3, [2, 3], []), (29, .putfield 22, 3, [2, 3], []), (32, .aload_n 0, 1, [], []), (33, .aload_n 1, 1, [], []), (34, .getfield 25, 3, [2, 4], []), (37, .putfield 25, 3, [2, 4], []), (40, .aload_n 0, 1, [], []), (41, .aload_n 1, 1, [], []), (42, .getfield 28, 3, [2, 5], []), (45, .putfield 28, 3, [2, 5], []), (48, .aload_n 0, 1, [], []), (49, .aload_n 1, 1, [], []), (50, .getfield 31, 3, [2, 6], []), (53, .putfield 31, 3, [2, 6], []), (56, .aload_n 0, 1, [], []), (57, .aload_n 1, 1, [], []), (58, .getfield 34, 3, [2, 7], []), (61, .putfield 34, 3, [2, 7], []), (64, .aload_n 0, 1, [], []), (65, .aload_n 1, 1, [], []), (66, .getfield 37, 3, [2, 8], []), (69, .putfield 37, 3, [2, 8], []), (72, .aload_n 0, 1, [], []), (73, .aload_n 1, 1, [], []), (74, .getfield 40, 3, [2, 9], []), (77, .putfield 40, 3, [2, 9], []), (80, .aload_n 0, 1, [], []), (81, .aload_n 1, 1, [], []), (82, .getfield 43, 3, [2, 10], []), (85, .putfield 43, 3, [2, 10], []), (88, .aload_n 0, 1, [], []), (89, .aload_n 1, 1, [], []), (90, .getfield 46, 3, [2, 11], []), (93, .putfield 46, 3, [2, 11], []), (96, .aload_n 0, 1, [], []), (97, .aload_n 1, 1, [], []), (98, .getfield 49, 3, [2, 12], []), (101, .putfield 49, 3, [2, 12, 1], []), (104, .return_, 1, [], [])]
def k_X2_sends : List mE := [(0, .aload_n 0, 1, [], []), (1, .getfield 9, 3, [2, 0], []), (4, .ifCond .eq 22, 3, [26, 0], []), (7, .aload_n 0, 1, [], []), (8, .getfield 28, 3, [2, 5], []), (11, .ifCond .eq 11, 3, [22, 0], []), (14, .aload_n 0, 1, [], []), (15, .getfield 28, 3, [2, 5], []), (18, .iconst 2, 1, [2], []), (19, .if_icmp .ne 7, 3, [26, 0], []), (22, .iconst 1, 1, [1], []), (23, .goto 4, 3, [27, 0], []), (26, .iconst 0, 1, [0], []), (27, .ireturn, 1, [1], [])]
def k_X3_become : List mE := [(0, .aload_n 1, 1, [], []), (1, .getfield 9, 3, [3, 0], []), (4, .iconst 0, 1, [0], []), (5, .aload_n 0, 1, [], []), (6, .getfield 9, 3, [3, 0], []), (9, .iconst 0, 1, [0], []), (10, .bipush 9, 2, [9], []), (12, .invokestatic 18, 3, [1002], []), (15, .aload_n 1, 1, [], []), (16, .getfield 15, 3, [3, 1], []), (19, .iconst 0, 1, [0], []), (20, .aload_n 0, 1, [], []), (21, .getfield 15, 3, [3, 1], []), (24, .iconst 0, 1, [0], []), (25, .bipush 6, 2, [6], []), (27, .invokestatic 18, 3, [1002], []), (30, .aload_n 0, 1, [], []), (31, .aload_n 1, 1, [], []), (32, .getfield 24, 3, [3, 2], []), (35, .putfield 24, 3, [3, 2], []), (38, .aload_n 0, 1, [], []), (39, .aload_n 1, 1, [], []), (40, .getfield 28, 3, [3, 3], []), (43, .putfield 28, 3, [3, 3], []), (46, .aload_n 0, 1, [], []), (47, .aload_n 1, 1, [], []), (48, .getfield 31, 3, [3, 4], []), (51, .putfield 31, 3, [3, 4], []), (54, .aload_n 0, 1, [], []), (55, .aload_n 1, 1, [], []), (56, .getfield 34, 3, [3, 5], []), (59, .putfield 34, 3, [3, 5], []), (62, .aload_n 0, 1, [], []), (63, .aload_n 1, 1, [], []), (64, .getfield 37, 3, [3, 6], []), (67, .putfield 37, 3, [3, 6], []), (70, .aload_n 0, 1, [], []), (71, .aload_n 1, 1, [], []), (72, .getfield 40, 3, [3, 7], []), (75, .putfield 40, 3, [3, 7], []), (78, .aload_n 0, 1, [], []), (79, .aload_n 1, 1, [], []), (80, .getfield 43, 3, [3, 8], []), (83, .putfield 43, 3, [3, 8], []), (86, .return_, 1, [], [])]
def k_X3_startAnew : List mE := [(0, .iconst 0, 1, [0], []), (1, .istore_n 1, 1, [], []), (2, .iload_n 1, 1, [], [1, 1]), (3, .bipush 9, 2, [9], []), (5, .if_icmp .ge 16, 3, [21, 0], []), (8, .aload_n 0, 1, [], []), (9, .getfield 9, 3, [3, 0], []), (12, .iload_n 1, 1, [], []), (13, .iconst 0, 1, [0], []), (14, .iastore, 1, [], []), (15, .iinc 1 1, 3, [], []), (18, .goto (-16), 3, [2, 1, 1, 1], []), (21, .iconst 0, 1, [0], []), (22, .istore_n 1, 1, [], []), (23, .iload_n 1, 1, [], [1, 1]), (24, .bipush 6, 2, [6], []), (26, .if_icmp .ge 16, 3, [42, 0], []), (29, .aload_n 0, 1, [], []), (30, .getfield 15, 3, [3, 1], []), (33, .iload_n 1, 1, [], []), (34, .iconst 0, 1, [0], []), (35, .iastore, 1, [], []), (36, .iinc 1 1, 3, [], []), (39, .goto (-16), 3, [23, 1, 1, 1], []), (42, .aload_n 0, 1, [], []), (43, .iconst 0, 1, [0], []), (44, .putfield 24, 3, [3, 2], []), (47, .aload_n 0, 1, [], []), (48, .iconst 0, 1, [0], []), (49, .putfield 28, 3, [3, 3], []), (52, .aload_n 0, 1, [], []), (53, .iconst 0, 1, [0], []), (54, .putfield 31, 3, [3, 4], []), (57, .aload_n 0, 1, [], []), (58, .iconst 0, 1, [0], []), (59, .putfield 34, 3, [3, 5], []), (62, .aload_n 0, 1, [], []), (63, .iconst 0, 1, [0], []), (64, .putfield 37, 3, [3, 6], []), (67, .aload_n 0, 1, [], []), (68, .iconst 0, 1, [0], []), (69, .putfield 40, 3, [3, 7], []), (72, .aload_n 0, 1, [], []), (73, .iconst 0, 1, [0], []), (74, .putfield 43, 3, [3, 8], []), (77, .return_, 1, [], [])]
def k_X3_delivered : List mE := [(0, .aload_n 0, 1, [], []), (1, .getfield 9, 3, [3, 0], []), (4, .iconst 0, 1, [0], []), (5, .dup2, 1, [], []), (6, .iaload, 1, [], []), (7, .iconst 1, 1, [1], []), (8, .iadd, 1, [], []), (9, .iastore, 1, [], []), (10, .aload_n 0, 1, [], []), (11, .getfield 9, 3, [3, 0], []), (14, .iconst 1, 1, [1], []), (15, .dup2, 1, [], []), (16, .iaload, 1, [], []), (17, .iload_n 1, 1, [], []), (18, .iadd, 1, [], []), (19, .iastore, 1, [], []), (20, .aload_n 0, 1, [], []), (21, .getfield 9, 3, [3, 0], []), (24, .bipush 7, 2, [7], []), (26, .dup2, 1, [], []), (27, .iaload, 1, [], []), (28, .iload_n 2, 1, [], []), (29, .iadd, 1, [], []), (30, .iastore, 1, [], []), (31, .aload_n 0, 1, [], []), (32, .getfield 9, 3, [3, 0], []), (35, .bipush 8, 2, [8], []), (37, .aload_n 0, 1, [], []), (38, .getfield 9, 3, [3, 0], []), (41, .bipush 8, 2, [8], []), (43, .iaload, 1, [], []), (44, .iload_n 2, 1, [], []), (45, .invokestatic 46, 3, [1000], []), (48, .iastore, 1, [], []), (49, .return_, 1, [], [])]
def k_X4_forget : List mE := [(0, .aload_n 0, 1, [], []), (1, .iconst 0, 1, [0], []), (2, .putfield 15, 3, [4, 1], []), (5, .return_, 1, [], [])]
def k_X4_add : List mE := [(0, .aload_n 0, 1, [], []), (1, .getfield 15, 3, [4, 1], []), (4, .bipush 16, 2, [16], []), (6, .if_icmp .ge 23, 3, [29, 0], []), (9, .aload_n 0, 1, [], []), (10, .getfield 9, 3, [4, 0], []), (13, .aload_n 0, 1, [], []), (14, .getfield 15, 3, [4, 1], []), (17, .lload_n 1, 1, [], []), (18, .lastore, 1, [], []), (19, .aload_n 0, 1, [], []), (20, .dup, 1, [], []), (21, .getfield 15, 3, [4, 1], []), (24, .iconst 1, 1, [1], []), (25, .iadd, 1, [], []), (26, .putfield 15, 3, [4, 1], []), (29, .return_, 1, [], [])]
def k_X4_tellOne : List mE := [(0, .aload_n 0, 1, [], []), (1, .invokevirtual 19, 3, [1, 40, 1, 0], []), (4, .aload_n 0, 1, [], []), (5, .lload_n 1, 1, [], []), (6, .invokevirtual 22, 3, [2, 41, 3, 0], []), (9, .return_, 1, [], [])]
def k_X4_tellTwo : List mE := [(0, .aload_n 0, 1, [], []), (1, .lload_n 1, 1, [], []), (2, .invokevirtual 26, 3, [2, 42, 3, 0], []), (5, .aload_n 0, 1, [], []), (6, .lload_n 3, 1, [], []), (7, .invokevirtual 22, 3, [2, 41, 3, 0], []), (10, .return_, 1, [], [])]
def k_X4_tellThree : List mE := [(0, .aload_n 0, 1, [], []), (1, .lload_n 1, 1, [], []), (2, .lload_n 3, 1, [], []), (3, .invokevirtual 29, 3, [3, 43, 5, 0], []), (6, .aload_n 0, 1, [], []), (7, .lload 5, 2, [], []), (9, .invokevirtual 22, 3, [2, 41, 3, 0], []), (12, .return_, 1, [], [])]
def k_X4_tellPart : List mE := [(0, .lload_n 1, 1, [], []), (1, .lstore 5, 2, [], []), (3, .lload_n 3, 1, [], []), (4, .lstore 7, 2, [], []), (6, .iconst 0, 1, [0], []), (7, .istore 9, 2, [], []), (9, .iload 9, 2, [], [1, 1, 0, 1, 0, 1, 0, 1, 0, 1, 0, 0]), (11, .bipush 100, 2, [100], []), (13, .if_icmp .ge 31, 3, [44, 0], []), (16, .lload 7, 2, [], []), (18, .lconst 0, 1, [0], []), (19, .lcmp, 1, [], []), (20, .ifCond .eq 24, 3, [44, 0], []), (23, .lload 5, 2, [], []), (25, .lload 7, 2, [], []), (27, .lrem, 1, [], []), (28, .lstore 10, 2, [], []), (30, .lload 7, 2, [], []), (32, .lstore 5, 2, [], []), (34, .lload 10, 2, [], []), (36, .lstore 7, 2, [], []), (38, .iinc 9 1, 3, [], []), (41, .goto (-32), 3, [9, 1, 1, 1, 0, 1, 0, 1, 0, 1, 0, 1, 0, 0], []), (44, .lload 5, 2, [], []), (46, .lconst 0, 1, [0], []), (47, .lcmp, 1, [], []), (48, .ifCond .le 15, 3, [63, 0], []), (51, .aload_n 0, 1, [], []), (52, .lload_n 1, 1, [], []), (53, .lload 5, 2, [], []), (55, .ldiv, 1, [], []), (56, .lload_n 3, 1, [], []), (57, .lload 5, 2, [], []), (59, .ldiv, 1, [], []), (60, .invokevirtual 29, 3, [3, 43, 5, 0], []), (63, .return_, 1, [], [])]
def k_X5_push : List mE := [(0, .aload_n 0, 1, [], []), (1, .aload_n 0, 1, [], []), (2, .getfield 18, 3, [5, 2], []), (5, .iconst 1, 1, [1], []), (6, .iadd, 1, [], []), (7, .bipush 6, 2, [6], []), (9, .if_icmp .ge 12, 3, [21, 0], []), (12, .aload_n 0, 1, [], []), (13, .getfield 18, 3, [5, 2], []), (16, .iconst 1, 1, [1], []), (17, .iadd, 1, [], []), (18, .goto 4, 3, [22, 0], []), (21, .iconst 0, 1, [0], []), (22, .putfield 18, 3, [5, 2], []), (25, .aload_n 0, 1, [], []), (26, .getfield 11, 3, [5, 0], []), (29, .aload_n 0, 1, [], []), (30, .getfield 18, 3, [5, 2], []), (33, .aaload, 1, [], []), (34, .aload_n 1, 1, [], []), (35, .invokevirtual 22, 3, [2, 0, 3, 0], []), (38, .aload_n 0, 1, [], []), (39, .getfield 26, 3, [5, 1], []), (42, .bipush 6, 2, [6], []), (44, .if_icmp .ge 13, 3, [57, 0], []), (47, .aload_n 0, 1, [], []), (48, .dup, 1, [], []), (49, .getfield 26, 3, [5, 1], []), (52, .iconst 1, 1, [1], []), (53, .iadd, 1, [], []), (54, .putfield 26, 3, [5, 1], []), (57, .return_, 1, [], [])]
def k_X5_popInto : List mE := [(0, .aload_n 0, 1, [], []), (1, .getfield 26, 3, [5, 1], []), (4, .iconst 1, 1, [1], []), (5, .if_icmp .ge 5, 3, [10, 0], []), (8, .iconst 0, 1, [0], []), (9, .ireturn, 1, [1], []), (10, .aload_n 1, 1, [], []), (11, .aload_n 0, 1, [], []), (12, .getfield 11, 3, [5, 0], []), (15, .aload_n 0, 1, [], []), (16, .getfield 18, 3, [5, 2], []), (19, .aaload, 1, [], []), (20, .invokevirtual 22, 3, [2, 0, 3, 0], []), (23, .aload_n 0, 1, [], []), (24, .aload_n 0, 1, [], []), (25, .getfield 18, 3, [5, 2], []), (28, .ifCond .le 12, 3, [40, 0], []), (31, .aload_n 0, 1, [], []), (32, .getfield 18, 3, [5, 2], []), (35, .iconst 1, 1, [1], []), (36, .isub, 1, [], []), (37, .goto 4, 3, [41, 0], []), (40, .iconst 5, 1, [5], []), (41, .putfield 18, 3, [5, 2], []), (44, .aload_n 0, 1, [], []), (45, .dup, 1, [], []), (46, .getfield 26, 3, [5, 1], []), (49, .iconst 1, 1, [1], []), (50, .isub, 1, [], []), (51, .putfield 26, 3, [5, 1], []), (54, .iconst 1, 1, [1], []), (55, .ireturn, 1, [1], [])]
def k_X6_become : List mE := [(0, .aload_n 1, 1, [], []), (1, .getfield 9, 3, [6, 0], []), (4, .iconst 0, 1, [0], []), (5, .aload_n 0, 1, [], []), (6, .getfield 9, 3, [6, 0], []), (9, .iconst 0, 1, [0], []), (10, .aload_n 0, 1, [], []), (11, .getfield 9, 3, [6, 0], []), (14, .arraylength, 1, [], []), (15, .invokestatic 15, 3, [1002], []), (18, .aload_n 0, 1, [], []), (19, .aload_n 1, 1, [], []), (20, .getfield 21, 3, [6, 1], []), (23, .putfield 21, 3, [6, 1], []), (26, .aload_n 0, 1, [], []), (27, .aload_n 1, 1, [], []), (28, .getfield 25, 3, [6, 2], []), (31, .putfield 25, 3, [6, 2], []), (34, .aload_n 0, 1, [], []), (35, .aload_n 1, 1, [], []), (36, .getfield 28, 3, [6, 3], []), (39, .putfield 28, 3, [6, 3], []), (42, .return_, 1, [], [])]
def k_X6_fieldOf : List mE := [(0, .iload_n 1, 1, [], []), (1, .ifCond .lt 24, 3, [25, 0], []), (4, .iload_n 1, 1, [], []), (5, .aload_n 0, 1, [], []), (6, .getfield 21, 3, [6, 1], []), (9, .if_icmp .ge 16, 3, [25, 0], []), (12, .aload_n 0, 1, [], []), (13, .getfield 9, 3, [6, 0], []), (16, .iload_n 1, 1, [], []), (17, .iconst 5, 1, [5], []), (18, .imul, 1, [], []), (19, .iload_n 2, 1, [], []), (20, .iadd, 1, [], []), (21, .iaload, 1, [], []), (22, .goto 4, 3, [26, 0], []), (25, .iconst (-1), 1, [], []), (26, .ireturn, 1, [], [])]
def k_X6_addLast : List mE := [(0, .aload_n 0, 1, [], []), (1, .getfield 21, 3, [6, 1], []), (4, .bipush 8, 2, [8], []), (6, .if_icmp .ge 71, 3, [77, 0], []), (9, .aload_n 0, 1, [], []), (10, .getfield 21, 3, [6, 1], []), (13, .iconst 5, 1, [5], []), (14, .imul, 1, [], []), (15, .istore 4, 2, [], []), (17, .aload_n 0, 1, [], []), (18, .getfield 9, 3, [6, 0], []), (21, .iload 4, 2, [], []), (23, .iconst 0, 1, [0], []), (24, .iadd, 1, [], []), (25, .iload_n 1, 1, [], []), (26, .iastore, 1, [], []), (27, .aload_n 0, 1, [], []), (28, .getfield 9, 3, [6, 0], []), (31, .iload 4, 2, [], []), (33, .iconst 1, 1, [1], []), (34, .iadd, 1, [], []), (35, .iload_n 2, 1, [], []), (36, .iastore, 1, [], []), (37, .aload_n 0, 1, [], []), (38, .getfield 9, 3, [6, 0], []), (41, .iload 4, 2, [], []), (43, .iconst 2, 1, [2], []), (44, .iadd, 1, [], []), (45, .iconst 0, 1, [0], []), (46, .iastore, 1, [], []), (47, .aload_n 0, 1, [], []), (48, .getfield 9, 3, [6, 0], []), (51, .iload 4, 2, [], []), (53, .iconst 3, 1, [3], []), (54, .iadd, 1, [], []), (55, .iload_n 3, 1, [], []), (56, .iastore, 1, [], []), (57, .aload_n 0, 1, [], []), (58, .getfield 9, 3, [6, 0], []), (61, .iload 4, 2, [], []), (63, .iconst 4, 1, [4], []), (64, .iadd, 1, [], []), (65, .iconst 0, 1, [0], []), (66, .iastore, 1, [], []), (67, .aload_n 0, 1, [], []), (68, .dup, 1, [], []), (69, .getfield 21, 3, [6, 1], []), (72, .iconst 1, 1, [1], []), (73, .iadd, 1, [], []), (74, .putfield 21, 3, [6, 1], []), (77, .return_, 1, [], [])]
def k_X6_tryAgain : List mE := [(0, .iload_n 1, 1, [], []), (1, .ifCond .lt 11, 3, [12, 0], []), (4, .iload_n 1, 1, [], []), (5, .aload_n 0, 1, [], []), (6, .getfield 21, 3, [6, 1], []), (9, .if_icmp .lt 5, 3, [14, 0], []), (12, .iconst 0, 1, [0], []), (13, .ireturn, 1, [], []), (14, .aload_n 0, 1, [], []), (15, .getfield 9, 3, [6, 0], []), (18, .iload_n 1, 1, [], []), (19, .iconst 5, 1, [5], []), (20, .imul, 1, [], []), (21, .iconst 2, 1, [2], []), (22, .iadd, 1, [], []), (23, .dup2, 1, [], []), (24, .iaload, 1, [], []), (25, .iconst 1, 1, [1], []), (26, .iadd, 1, [], []), (27, .iastore, 1, [], []), (28, .aload_n 0, 1, [], []), (29, .getfield 9, 3, [6, 0], []), (32, .iload_n 1, 1, [], []), (33, .iconst 5, 1, [5], []), (34, .imul, 1, [], []), (35, .iconst 2, 1, [2], []), (36, .iadd, 1, [], []), (37, .iaload, 1, [], []), (38, .ireturn, 1, [], [])]
def k_X6_removeAt : List mE := [(0, .iload_n 1, 1, [], []), (1, .ifCond .lt 11, 3, [12, 0], []), (4, .iload_n 1, 1, [], []), (5, .aload_n 0, 1, [], []), (6, .getfield 21, 3, [6, 1], []), (9, .if_icmp .lt 4, 3, [13, 0], []), (12, .return_, 1, [], []), (13, .iload_n 1, 1, [], []), (14, .iconst 1, 1, [1], []), (15, .iadd, 1, [], []), (16, .iconst 5, 1, [5], []), (17, .imul, 1, [], []), (18, .istore_n 2, 1, [], []), (19, .iload_n 2, 1, [], [1, 0, 1]), (20, .aload_n 0, 1, [], []), (21, .getfield 21, 3, [6, 1], []), (24, .iconst 5, 1, [5], []), (25, .imul, 1, [], []), (26, .if_icmp .ge 23, 3, [49, 0], []), (29, .aload_n 0, 1, [], []), (30, .getfield 9, 3, [6, 0], []), (33, .iload_n 2, 1, [], []), (34, .iconst 5, 1, [5], []), (35, .isub, 1, [], []), (36, .aload_n 0, 1, [], []), (37, .getfield 9, 3, [6, 0], []), (40, .iload_n 2, 1, [], []), (41, .iaload, 1, [], []), (42, .iastore, 1, [], []), (43, .iinc 2 1, 3, [], []), (46, .goto (-27), 3, [19, 1, 1, 0, 1], []), (49, .aload_n 0, 1, [], []), (50, .dup, 1, [], []), (51, .getfield 21, 3, [6, 1], []), (54, .iconst 1, 1, [1], []), (55, .isub, 1, [], []), (56, .putfield 21, 3, [6, 1], []), (59, .return_, 1, [], [])]
def k_X6_alikeAtFirst : List mE := [(0, .iconst 0, 1, [0], []), (1, .istore_n 2, 1, [], []), (2, .iconst 0, 1, [0], []), (3, .istore_n 3, 1, [], []), (4, .iload_n 3, 1, [], [1, 1, 1, 1]), (5, .aload_n 0, 1, [], []), (6, .getfield 21, 3, [6, 1], []), (9, .if_icmp .ge 35, 3, [44, 0], []), (12, .iload_n 3, 1, [], []), (13, .iload_n 1, 1, [], []), (14, .if_icmp .ge 30, 3, [44, 0], []), (17, .aload_n 0, 1, [], []), (18, .iload_n 3, 1, [], []), (19, .iconst 0, 1, [0], []), (20, .invokevirtual 31, 3, [3, 49, 3, 1], []), (23, .aload_n 0, 1, [], []), (24, .iconst 0, 1, [0], []), (25, .iconst 0, 1, [0], []), (26, .invokevirtual 31, 3, [3, 49, 3, 1], []), (29, .if_icmp .eq 6, 3, [35, 0], []), (32, .goto 12, 3, [44, 0], []), (35, .iinc 2 1, 3, [], []), (38, .iinc 3 1, 3, [], []), (41, .goto (-37), 3, [4, 1, 1, 1, 1, 1], []), (44, .iload_n 2, 1, [], []), (45, .ireturn, 1, [], [])]
def k_X7_addFour : List mE := [(0, .aload_n 0, 1, [], []), (1, .getfield 15, 3, [7, 1], []), (4, .ifCond .lt 14, 3, [18, 0], []), (7, .aload_n 0, 1, [], []), (8, .getfield 15, 3, [7, 1], []), (11, .iconst 4, 1, [4], []), (12, .iadd, 1, [], []), (13, .bipush 80, 2, [80], []), (15, .if_icmp .le 5, 3, [20, 0], []), (18, .iconst 0, 1, [0], []), (19, .ireturn, 1, [1], []), (20, .iconst 0, 1, [0], []), (21, .istore_n 2, 1, [], []), (22, .iload_n 2, 1, [], [1, 1, 1]), (23, .iconst 4, 1, [4], []), (24, .if_icmp .ge 33, 3, [57, 0], []), (27, .aload_n 0, 1, [], []), (28, .getfield 9, 3, [7, 0], []), (31, .aload_n 0, 1, [], []), (32, .getfield 15, 3, [7, 1], []), (35, .iload_n 2, 1, [], []), (36, .iadd, 1, [], []), (37, .iload_n 1, 1, [], []), (38, .bipush 24, 2, [24], []), (40, .bipush 8, 2, [8], []), (42, .iload_n 2, 1, [], []), (43, .imul, 1, [], []), (44, .isub, 1, [], []), (45, .iushr, 1, [], []), (46, .sipush 255, 3, [255], []), (49, .iand, 1, [], []), (50, .iastore, 1, [], []), (51, .iinc 2 1, 3, [], []), (54, .goto (-32), 3, [22, 1, 1, 1, 1], []), (57, .aload_n 0, 1, [], []), (58, .dup, 1, [], []), (59, .getfield 15, 3, [7, 1], []), (62, .iconst 4, 1, [4], []), (63, .iadd, 1, [], []), (64, .putfield 15, 3, [7, 1], []), (67, .iconst 1, 1, [1], []), (68, .ireturn, 1, [1], [])]
def k_X7_cutTo : List mE := [(0, .iload_n 1, 1, [], []), (1, .ifCond .lt 11, 3, [12, 0], []), (4, .iload_n 1, 1, [], []), (5, .aload_n 0, 1, [], []), (6, .getfield 15, 3, [7, 1], []), (9, .if_icmp .le 5, 3, [14, 0], []), (12, .iconst 0, 1, [0], []), (13, .ireturn, 1, [1], []), (14, .aload_n 0, 1, [], []), (15, .iload_n 1, 1, [], []), (16, .putfield 15, 3, [7, 1], []), (19, .iconst 1, 1, [1], []), (20, .ireturn, 1, [1], [])]
def k_X7_at : List mE := [(0, .iload_n 1, 1, [], []), (1, .ifCond .lt 20, 3, [21, 0], []), (4, .iload_n 1, 1, [], []), (5, .aload_n 0, 1, [], []), (6, .getfield 15, 3, [7, 1], []), (9, .if_icmp .ge 12, 3, [21, 0], []), (12, .aload_n 0, 1, [], []), (13, .getfield 9, 3, [7, 0], []), (16, .iload_n 1, 1, [], []), (17, .iaload, 1, [], []), (18, .goto 4, 3, [22, 0], []), (21, .iconst (-1), 1, [], []), (22, .ireturn, 1, [], [])]
def k_X7_digitAt : List mE := [(0, .aload_n 0, 1, [], []), (1, .iload_n 1, 1, [], []), (2, .invokevirtual 19, 3, [2, 56, 2, 1], []), (5, .bipush 48, 2, [48], []), (7, .isub, 1, [], []), (8, .istore 4, 2, [], []), (10, .iload 4, 2, [], []), (12, .iload_n 2, 1, [], []), (13, .if_icmp .lt 14, 3, [27, 0], []), (16, .iload 4, 2, [], []), (18, .iload_n 3, 1, [], []), (19, .if_icmp .gt 8, 3, [27, 0], []), (22, .iload 4, 2, [], []), (24, .goto 4, 3, [28, 0], []), (27, .iconst (-1), 1, [], []), (28, .ireturn, 1, [], [])]
def k_X7_letterAt : List mE := [(0, .aload_n 0, 1, [], []), (1, .iload_n 1, 1, [], []), (2, .invokevirtual 19, 3, [2, 56, 2, 1], []), (5, .bipush 97, 2, [97], []), (7, .isub, 1, [], []), (8, .istore_n 3, 1, [], []), (9, .iload_n 3, 1, [], []), (10, .ifCond .lt 12, 3, [22, 0], []), (13, .iload_n 3, 1, [], []), (14, .iload_n 2, 1, [], []), (15, .if_icmp .ge 7, 3, [22, 0], []), (18, .iload_n 3, 1, [], []), (19, .goto 4, 3, [23, 0], []), (22, .iconst (-1), 1, [], []), (23, .ireturn, 1, [], [])]
def k_X8_become : List mE := [(0, .iconst 0, 1, [0], []), (1, .istore_n 2, 1, [], []), (2, .iload_n 2, 1, [], [1, 1, 1]), (3, .iconst 4, 1, [4], []), (4, .if_icmp .ge 24, 3, [28, 0], []), (7, .aload_n 0, 1, [], []), (8, .getfield 11, 3, [8, 0], []), (11, .iload_n 2, 1, [], []), (12, .aaload, 1, [], []), (13, .aload_n 1, 1, [], []), (14, .getfield 11, 3, [8, 0], []), (17, .iload_n 2, 1, [], []), (18, .aaload, 1, [], []), (19, .invokevirtual 46, 3, [2, 48, 2, 0], []), (22, .iinc 2 1, 3, [], []), (25, .goto (-23), 3, [2, 1, 1, 1, 1], []), (28, .aload_n 0, 1, [], []), (29, .getfield 20, 3, [8, 1], []), (32, .aload_n 1, 1, [], []), (33, .getfield 20, 3, [8, 1], []), (36, .invokevirtual 50, 3, [2, 35, 2, 0], []), (39, .aload_n 0, 1, [], []), (40, .getfield 27, 3, [8, 2], []), (43, .aload_n 1, 1, [], []), (44, .getfield 27, 3, [8, 2], []), (47, .invokevirtual 53, 3, [2, 37, 2, 0], []), (50, .aload_n 1, 1, [], []), (51, .getfield 31, 3, [8, 3], []), (54, .iconst 0, 1, [0], []), (55, .aload_n 0, 1, [], []), (56, .getfield 31, 3, [8, 3], []), (59, .iconst 0, 1, [0], []), (60, .bipush 6, 2, [6], []), (62, .invokestatic 56, 3, [1002], []), (65, .aload_n 1, 1, [], []), (66, .getfield 35, 3, [8, 4], []), (69, .iconst 0, 1, [0], []), (70, .aload_n 0, 1, [], []), (71, .getfield 35, 3, [8, 4], []), (74, .iconst 0, 1, [0], []), (75, .bipush 6, 2, [6], []), (77, .invokestatic 56, 3, [1002], []), (80, .aload_n 1, 1, [], []), (81, .getfield 38, 3, [8, 5], []), (84, .iconst 0, 1, [0], []), (85, .aload_n 0, 1, [], []), (86, .getfield 38, 3, [8, 5], []), (89, .iconst 0, 1, [0], []), (90, .bipush 6, 2, [6], []), (92, .invokestatic 56, 3, [1002], []), (95, .aload_n 0, 1, [], []), (96, .aload_n 1, 1, [], []), (97, .getfield 62, 3, [8, 6], []), (100, .putfield 62, 3, [8, 6], []), (103, .aload_n 0, 1, [], []), (104, .aload_n 1, 1, [], []), (105, .getfield 65, 3, [8, 7], []), (108, .putfield 65, 3, [8, 7], []), (111, .aload_n 0, 1, [], []), (112, .aload_n 1, 1, [], []), (113, .getfield 68, 3, [8, 8], []), (116, .putfield 68, 3, [8, 8], []), (119, .aload_n 0, 1, [], []), (120, .aload_n 1, 1, [], []), (121, .getfield 71, 3, [8, 9], []), (124, .putfield 71, 3, [8, 9], []), (127, .aload_n 0, 1, [], []), (128, .aload_n 1, 1, [], []), (129, .getfield 74, 3, [8, 10], []), (132, .putfield 74, 3, [8, 10], []), (135, .aload_n 0, 1, [], []), (136, .aload_n 1, 1, [], []), (137, .getfield 41, 3, [8, 11], []), (140, .putfield 41, 3, [8, 11], []), (143, .aload_n 0, 1, [], []), (144, .aload_n 1, 1, [], []), (145, .getfield 77, 3, [8, 12], []), (148, .putfield 77, 3, [8, 12], []), (151, .return_, 1, [], [])]
def k_X8_isFree : List mE := [(0, .aload_n 0, 1, [], []), (1, .getfield 20, 3, [8, 1], []), (4, .getfield 80, 3, [2, 0], []), (7, .ifCond .ne 14, 3, [21, 0], []), (10, .aload_n 0, 1, [], []), (11, .getfield 77, 3, [8, 12], []), (14, .ifCond .ne 7, 3, [21, 0], []), (17, .iconst 1, 1, [1], []), (18, .goto 4, 3, [22, 0], []), (21, .iconst 0, 1, [0], []), (22, .ireturn, 1, [1], [])]
def k_X8_waiting : List mE := [(0, .iconst 0, 1, [0], []), (1, .istore_n 1, 1, [], []), (2, .iconst 0, 1, [0], []), (3, .istore_n 2, 1, [], []), (4, .iload_n 2, 1, [], [1, 1, 1]), (5, .iconst 4, 1, [4], []), (6, .if_icmp .ge 21, 3, [27, 0], []), (9, .iload_n 1, 1, [], []), (10, .aload_n 0, 1, [], []), (11, .getfield 11, 3, [8, 0], []), (14, .iload_n 2, 1, [], []), (15, .aaload, 1, [], []), (16, .getfield 84, 3, [6, 1], []), (19, .iadd, 1, [], []), (20, .istore_n 1, 1, [], []), (21, .iinc 2 1, 3, [], []), (24, .goto (-20), 3, [4, 1, 1, 1, 1], []), (27, .iload_n 1, 1, [], []), (28, .ireturn, 1, [], [])]
def k_X8_setOwing : List mE := [(0, .aload_n 0, 1, [], []), (1, .iload_n 1, 1, [], []), (2, .putfield 41, 3, [8, 11], []), (5, .aload_n 0, 1, [], []), (6, .iload_n 2, 1, [], []), (7, .putfield 77, 3, [8, 12], []), (10, .return_, 1, [], [])]
def k_X8_pays : List mE := [(0, .aload_n 0, 1, [], []), (1, .getfield 41, 3, [8, 11], []), (4, .iload_n 1, 1, [], []), (5, .if_icmp .ne 11, 3, [16, 0], []), (8, .aload_n 0, 1, [], []), (9, .getfield 77, 3, [8, 12], []), (12, .iload_n 2, 1, [], []), (13, .if_icmp .eq 5, 3, [18, 0], []), (16, .iconst 0, 1, [0], []), (17, .ireturn, 1, [1], []), (18, .aload_n 0, 1, [], []), (19, .iconst (-1), 1, [], []), (20, .iconst 0, 1, [0], []), (21, .invokevirtual 87, 3, [3, 62, 3, 0], []), (24, .iconst 1, 1, [1], []), (25, .ireturn, 1, [1], [])]
def k_X8_listen : List mE := [(0, .iload_n 3, 1, [], []), (1, .aload_n 0, 1, [], []), (2, .getfield 68, 3, [8, 8], []), (5, .if_icmp .le 18, 3, [23, 0], []), (8, .aload_n 0, 1, [], []), (9, .iload_n 3, 1, [], []), (10, .putfield 68, 3, [8, 8], []), (13, .aload_n 0, 1, [], []), (14, .iload_n 1, 1, [], []), (15, .putfield 71, 3, [8, 9], []), (18, .aload_n 0, 1, [], []), (19, .iload_n 2, 1, [], []), (20, .putfield 74, 3, [8, 10], []), (23, .return_, 1, [], [])]
def k_X9_sign : List mE := [(0, .aload_n 0, 1, [], []), (1, .getfield 44, 3, [9, 6], []), (4, .iload_n 1, 1, [], []), (5, .invokevirtual 59, 3, [2, 54, 3, 1], []), (8, .ifCond .eq 13, 3, [21, 0], []), (11, .aload_n 0, 1, [], []), (12, .getfield 44, 3, [9, 6], []), (15, .getfield 63, 3, [7, 1], []), (18, .goto 4, 3, [22, 0], []), (21, .iconst (-1), 1, [], []), (22, .ireturn, 1, [], [])]
def k_X9_end : List mE := [(0, .aload_n 0, 1, [], []), (1, .getfield 44, 3, [9, 6], []), (4, .iload_n 1, 1, [], []), (5, .invokevirtual 67, 3, [2, 55, 2, 1], []), (8, .ireturn, 1, [1], [])]
def k_X9_net : List mE := [(0, .aload_n 0, 1, [], []), (1, .getfield 44, 3, [9, 6], []), (4, .iconst 0, 1, [0], []), (5, .iconst 1, 1, [1], []), (6, .bipush 6, 2, [6], []), (8, .invokevirtual 70, 3, [4, 57, 5, 1], []), (11, .istore_n 1, 1, [], []), (12, .iload_n 1, 1, [], []), (13, .ifCond .ge 7, 3, [20, 0], []), (16, .iconst 0, 1, [0], []), (17, .goto 8, 3, [25, 0], []), (20, .aload_n 0, 1, [], []), (21, .iload_n 1, 1, [], []), (22, .invokevirtual 74, 3, [2, 103, 6, 1], []), (25, .istore_n 2, 1, [], []), (26, .iload_n 2, 1, [], []), (27, .ifCond .lt 15, 3, [42, 0], []), (30, .aload_n 0, 1, [], []), (31, .getfield 44, 3, [9, 6], []), (34, .iconst 0, 1, [0], []), (35, .putfield 63, 3, [7, 1], []), (38, .iconst (-1), 1, [], []), (39, .iload_n 2, 1, [], []), (40, .isub, 1, [], []), (41, .ireturn, 1, [], []), (42, .aload_n 0, 1, [], []), (43, .getfield 44, 3, [9, 6], []), (46, .getfield 63, 3, [7, 1], []), (49, .iconst 1, 1, [1], []), (50, .isub, 1, [], []), (51, .iconst 3, 1, [3], []), (52, .idiv, 1, [], []), (53, .istore_n 3, 1, [], []), (54, .aload_n 0, 1, [], []), (55, .getfield 44, 3, [9, 6], []), (58, .iconst 0, 1, [0], []), (59, .putfield 63, 3, [7, 1], []), (62, .aload_n 0, 1, [], []), (63, .getfield 29, 3, [9, 3], []), (66, .aload_n 0, 1, [], []), (67, .getfield 10, 3, [9, 0], []), (70, .invokevirtual 78, 3, [2, 46, 2, 0], []), (73, .aload_n 0, 1, [], []), (74, .getfield 10, 3, [9, 0], []), (77, .iload_n 1, 1, [], []), (78, .aload_n 0, 1, [], []), (79, .getfield 55, 3, [9, 8], []), (82, .invokevirtual 82, 3, [3, 1, 4, 0], []), (85, .iload_n 3, 1, [], []), (86, .ireturn, 1, [], [])]
def k_X9_sets : List mE := [(0, .iload_n 1, 1, [], []), (1, .ifCond .lt 9, 3, [10, 0], []), (4, .iload_n 1, 1, [], []), (5, .bipush 12, 2, [12], []), (7, .if_icmp .le 5, 3, [12, 0], []), (10, .iconst (-1), 1, [], []), (11, .ireturn, 1, [], []), (12, .iload_n 1, 1, [], []), (13, .bipush 12, 2, [12], []), (15, .if_icmp .ne 28, 3, [43, 0], []), (18, .aload_n 0, 1, [], []), (19, .getfield 29, 3, [9, 3], []), (22, .aload_n 0, 1, [], []), (23, .getfield 10, 3, [9, 0], []), (26, .invokevirtual 78, 3, [2, 46, 2, 0], []), (29, .aload_n 0, 1, [], []), (30, .getfield 10, 3, [9, 0], []), (33, .getfield 86, 3, [0, 1], []), (36, .iload_n 2, 1, [], []), (37, .putfield 89, 3, [1, 0], []), (40, .bipush 100, 2, [100], []), (42, .ireturn, 1, [], []), (43, .iload_n 2, 1, [], []), (44, .iconst 1, 1, [1], []), (45, .if_icmp .lt 12, 3, [57, 0], []), (48, .iload_n 2, 1, [], []), (49, .getstatic 92, 3, [51], []), (52, .iload_n 1, 1, [], []), (53, .iaload, 1, [], []), (54, .if_icmp .le 5, 3, [59, 0], []), (57, .iconst (-1), 1, [], []), (58, .ireturn, 1, [], []), (59, .aload_n 0, 1, [], []), (60, .getfield 10, 3, [9, 0], []), (63, .getfield 95, 3, [0, 0], []), (66, .iload_n 1, 1, [], []), (67, .iaload, 1, [], []), (68, .istore_n 3, 1, [], []), (69, .iload_n 3, 1, [], []), (70, .iload_n 2, 1, [], []), (71, .if_icmp .ne 6, 3, [77, 0], []), (74, .bipush (-2), 2, [], []), (76, .ireturn, 1, [], []), (77, .aload_n 0, 1, [], []), (78, .getfield 29, 3, [9, 3], []), (81, .aload_n 0, 1, [], []), (82, .getfield 10, 3, [9, 0], []), (85, .invokevirtual 78, 3, [2, 46, 2, 0], []), (88, .aload_n 0, 1, [], []), (89, .getfield 10, 3, [9, 0], []), (92, .getfield 95, 3, [0, 0], []), (95, .iload_n 1, 1, [], []), (96, .iload_n 2, 1, [], []), (97, .iastore, 1, [], []), (98, .bipush 100, 2, [100], []), (100, .iload_n 3, 1, [], []), (101, .iadd, 1, [], []), (102, .ireturn, 1, [], [])]
def k_X9_setting : List mE := [(0, .iload_n 1, 1, [], []), (1, .ifCond .lt 9, 3, [10, 0], []), (4, .iload_n 1, 1, [], []), (5, .bipush 12, 2, [12], []), (7, .if_icmp .le 11, 3, [18, 0], []), (10, .new 98, 3, [], []), (13, .dup, 1, [], []), (14, .invokespecial 100, 3, [], []), (17, .athrow, 1, [], []), (18, .iload_n 1, 1, [], []), (19, .bipush 12, 2, [12], []), (21, .if_icmp .ne 16, 3, [37, 0], []), (24, .aload_n 0, 1, [], []), (25, .getfield 10, 3, [9, 0], []), (28, .getfield 86, 3, [0, 1], []), (31, .getfield 89, 3, [1, 0], []), (34, .goto 12, 3, [46, 0], []), (37, .aload_n 0, 1, [], []), (38, .getfield 10, 3, [9, 0], []), (41, .getfield 95, 3, [0, 0], []), (44, .iload_n 1, 1, [], []), (45, .iaload, 1, [], []), (46, .ireturn, 1, [], [])]
def k_X9_sheet : List mE := [(0, .iload_n 1, 1, [], []), (1, .invokestatic 101, 3, [1, 102, 1, 1], []), (4, .ifCond .eq 18, 3, [22, 0], []), (7, .iload_n 2, 1, [], []), (8, .ifCond .lt 14, 3, [22, 0], []), (11, .iload_n 2, 1, [], []), (12, .iconst 3, 1, [3], []), (13, .if_icmp .gt 9, 3, [22, 0], []), (16, .iload_n 3, 1, [], []), (17, .bipush 6, 2, [6], []), (19, .if_icmp .le 5, 3, [24, 0], []), (22, .iconst (-1), 1, [], []), (23, .ireturn, 1, [], []), (24, .aload_n 0, 1, [], []), (25, .getfield 10, 3, [9, 0], []), (28, .invokevirtual 104, 3, [1, 6, 3, 1], []), (31, .ifCond .le 6, 3, [37, 0], []), (34, .bipush (-4), 2, [], []), (36, .ireturn, 1, [], []), (37, .iload_n 2, 1, [], []), (38, .iconst 3, 1, [3], []), (39, .if_icmp .eq 10, 3, [49, 0], []), (42, .iload_n 3, 1, [], []), (43, .ifCond .ge 6, 3, [49, 0], []), (46, .bipush (-2), 2, [], []), (48, .ireturn, 1, [], []), (49, .aload_n 0, 1, [], []), (50, .getfield 10, 3, [9, 0], []), (53, .iload_n 1, 1, [], []), (54, .invokevirtual 108, 3, [2, 7, 3, 0], []), (57, .iload_n 2, 1, [], []), (58, .iconst 3, 1, [3], []), (59, .if_icmp .ne 6, 3, [65, 0], []), (62, .bipush (-3), 2, [], []), (64, .ireturn, 1, [], []), (65, .iconst 0, 1, [0], []), (66, .istore 6, 2, [], []), (68, .iconst 0, 1, [0], []), (69, .istore 7, 2, [], []), (71, .iload 7, 2, [], [1, 1, 1, 1, 1, 1, 1, 1]), (73, .iload_n 3, 1, [], []), (74, .if_icmp .ge 46, 3, [120, 0], []), (77, .iload 7, 2, [], []), (79, .aload_n 0, 1, [], []), (80, .getfield 10, 3, [9, 0], []), (83, .getfield 112, 3, [0, 3], []), (86, .if_icmp .ge 34, 3, [120, 0], []), (89, .aload_n 0, 1, [], []), (90, .iload 7, 2, [], []), (92, .iload_n 1, 1, [], []), (93, .iload_n 2, 1, [], []), (94, .iload 4, 2, [], []), (96, .iload 7, 2, [], []), (98, .iload 5, 2, [], []), (100, .imul, 1, [], []), (101, .iadd, 1, [], []), (102, .invokestatic 115, 3, [2, 104, 2, 1], []), (105, .invokevirtual 119, 3, [4, 105, 5, 1], []), (108, .ifCond .eq 6, 3, [114, 0], []), (111, .iinc 6 1, 3, [], []), (114, .iinc 7 1, 3, [], []), (117, .goto (-46), 3, [71, 1, 1, 1, 1, 1, 1, 1, 1, 1], []), (120, .iload 6, 2, [], []), (122, .ireturn, 1, [], [])]
def k_X9_offers : List mE := [(0, .aload_n 0, 1, [], []), (1, .getfield 10, 3, [9, 0], []), (4, .iload_n 1, 1, [], []), (5, .iload_n 2, 1, [], []), (6, .iload_n 3, 1, [], []), (7, .iload 4, 2, [], []), (9, .invokevirtual 123, 3, [5, 8, 5, 1], []), (12, .istore 5, 2, [], []), (14, .iload 5, 2, [], []), (16, .ifCond .ge 6, 3, [22, 0], []), (19, .iload 5, 2, [], []), (21, .ireturn, 1, [], []), (22, .aload_n 0, 1, [], []), (23, .getfield 29, 3, [9, 3], []), (26, .aload_n 0, 1, [], []), (27, .getfield 10, 3, [9, 0], []), (30, .invokevirtual 78, 3, [2, 46, 2, 0], []), (33, .aload_n 0, 1, [], []), (34, .getfield 10, 3, [9, 0], []), (37, .iload_n 1, 1, [], []), (38, .iload_n 2, 1, [], []), (39, .iload_n 3, 1, [], []), (40, .iload 4, 2, [], []), (42, .invokevirtual 127, 3, [5, 9, 6, 1], []), (45, .ireturn, 1, [], [])]
def k_X9_slots : List mE := [(0, .iload_n 1, 1, [], []), (1, .iconst 1, 1, [1], []), (2, .if_icmp .lt 9, 3, [11, 0], []), (5, .iload_n 1, 1, [], []), (6, .bipush 60, 2, [60], []), (8, .if_icmp .le 5, 3, [13, 0], []), (11, .iconst (-1), 1, [], []), (12, .ireturn, 1, [], []), (13, .aload_n 0, 1, [], []), (14, .getfield 29, 3, [9, 3], []), (17, .aload_n 0, 1, [], []), (18, .getfield 10, 3, [9, 0], []), (21, .invokevirtual 78, 3, [2, 46, 2, 0], []), (24, .aload_n 0, 1, [], []), (25, .getfield 10, 3, [9, 0], []), (28, .iconst 0, 1, [0], []), (29, .invokevirtual 130, 3, [2, 4, 4, 1], []), (32, .istore_n 2, 1, [], []), (33, .aload_n 0, 1, [], []), (34, .getfield 10, 3, [9, 0], []), (37, .iconst 2, 1, [2], []), (38, .invokevirtual 130, 3, [2, 4, 4, 1], []), (41, .istore_n 3, 1, [], []), (42, .aload_n 0, 1, [], []), (43, .getfield 10, 3, [9, 0], []), (46, .iconst 4, 1, [4], []), (47, .invokevirtual 130, 3, [2, 4, 4, 1], []), (50, .istore 4, 2, [], []), (52, .aload_n 0, 1, [], []), (53, .getfield 10, 3, [9, 0], []), (56, .bipush 6, 2, [6], []), (58, .invokevirtual 130, 3, [2, 4, 4, 1], []), (61, .istore 5, 2, [], []), (63, .iconst 0, 1, [0], []), (64, .istore 6, 2, [], []), (66, .iload 6, 2, [], [1, 1, 1, 1, 1, 1, 1]), (68, .iload_n 1, 1, [], []), (69, .if_icmp .ge 16, 3, [85, 0], []), (72, .aload_n 0, 1, [], []), (73, .getfield 10, 3, [9, 0], []), (76, .invokevirtual 133, 3, [1, 13, 3, 0], []), (79, .iinc 6 1, 3, [], []), (82, .goto (-16), 3, [66, 1, 1, 1, 1, 1, 1, 1, 1], []), (85, .aload_n 0, 1, [], []), (86, .getfield 51, 3, [9, 7], []), (89, .aload_n 0, 1, [], []), (90, .getfield 10, 3, [9, 0], []), (93, .iconst 2, 1, [2], []), (94, .invokevirtual 130, 3, [2, 4, 4, 1], []), (97, .iload_n 3, 1, [], []), (98, .isub, 1, [], []), (99, .i2l, 1, [], []), (100, .aload_n 0, 1, [], []), (101, .getfield 10, 3, [9, 0], []), (104, .iconst 4, 1, [4], []), (105, .invokevirtual 130, 3, [2, 4, 4, 1], []), (108, .iload 4, 2, [], []), (110, .isub, 1, [], []), (111, .i2l, 1, [], []), (112, .aload_n 0, 1, [], []), (113, .getfield 10, 3, [9, 0], []), (116, .bipush 6, 2, [6], []), (118, .invokevirtual 130, 3, [2, 4, 4, 1], []), (121, .iload 5, 2, [], []), (123, .isub, 1, [], []), (124, .i2l, 1, [], []), (125, .invokevirtual 136, 3, [4, 44, 7, 0], []), (128, .aload_n 0, 1, [], []), (129, .getfield 10, 3, [9, 0], []), (132, .iconst 0, 1, [0], []), (133, .invokevirtual 130, 3, [2, 4, 4, 1], []), (136, .iload_n 2, 1, [], []), (137, .isub, 1, [], []), (138, .ireturn, 1, [], [])]
def k_X9_draws : List mE := [(0, .aload_n 0, 1, [], []), (1, .getfield 29, 3, [9, 3], []), (4, .aload_n 0, 1, [], []), (5, .getfield 10, 3, [9, 0], []), (8, .invokevirtual 78, 3, [2, 46, 2, 0], []), (11, .aload_n 0, 1, [], []), (12, .getfield 10, 3, [9, 0], []), (15, .invokevirtual 140, 3, [1, 11, 5, 1], []), (18, .ireturn, 1, [], [])]
def k_X9_station : List mE := [(0, .aload_n 0, 1, [], []), (1, .iload_n 1, 1, [], []), (2, .invokevirtual 143, 3, [2, 101, 2, 1], []), (5, .ifCond .eq 13, 3, [18, 0], []), (8, .iload_n 2, 1, [], []), (9, .ifCond .lt 9, 3, [18, 0], []), (12, .iload_n 2, 1, [], []), (13, .bipush 6, 2, [6], []), (15, .if_icmp .le 11, 3, [26, 0], []), (18, .new 98, 3, [], []), (21, .dup, 1, [], []), (22, .invokespecial 100, 3, [], []), (25, .athrow, 1, [], []), (26, .aload_n 0, 1, [], []), (27, .getfield 10, 3, [9, 0], []), (30, .getfield 146, 3, [0, 2], []), (33, .iload_n 1, 1, [], []), (34, .aaload, 1, [], []), (35, .astore_n 3, 1, [], []), (36, .iload_n 2, 1, [], []), (37, .tableswitch 77 0 5 #[39, 44, 49, 62, 67, 72], 39, [114, 76, 81, 86, 99, 104, 109], []), (76, .aload_n 3, 1, [], []), (77, .getfield 150, 3, [8, 7], []), (80, .ireturn, 1, [], []), (81, .aload_n 3, 1, [], []), (82, .getfield 155, 3, [8, 8], []), (85, .ireturn, 1, [], []), (86, .aload_n 3, 1, [], []), (87, .invokevirtual 158, 3, [1, 60, 1, 1], []), (90, .ifCond .eq 7, 3, [97, 0], []), (93, .iconst 1, 1, [1], []), (94, .goto 4, 3, [98, 0], []), (97, .iconst 0, 1, [0], []), (98, .ireturn, 1, [], []), (99, .aload_n 3, 1, [], []), (100, .getfield 162, 3, [8, 11], []), (103, .ireturn, 1, [], []), (104, .aload_n 3, 1, [], []), (105, .getfield 165, 3, [8, 12], []), (108, .ireturn, 1, [], []), (109, .aload_n 3, 1, [], []), (110, .getfield 168, 3, [8, 6], []), (113, .ireturn, 1, [], []), (114, .aload_n 3, 1, [], []), (115, .invokevirtual 171, 3, [1, 61, 3, 1], []), (118, .ireturn, 1, [], [])]
def k_X9_rank : List mE := [(0, .aload_n 0, 1, [], []), (1, .iload_n 1, 1, [], []), (2, .invokevirtual 143, 3, [2, 101, 2, 1], []), (5, .ifCond .eq 19, 3, [24, 0], []), (8, .iload_n 2, 1, [], []), (9, .invokestatic 101, 3, [1, 102, 1, 1], []), (12, .ifCond .eq 12, 3, [24, 0], []), (15, .iload_n 3, 1, [], []), (16, .ifCond .lt 8, 3, [24, 0], []), (19, .iload_n 3, 1, [], []), (20, .iconst 3, 1, [3], []), (21, .if_icmp .le 11, 3, [32, 0], []), (24, .new 98, 3, [], []), (27, .dup, 1, [], []), (28, .invokespecial 100, 3, [], []), (31, .athrow, 1, [], []), (32, .aload_n 0, 1, [], []), (33, .getfield 10, 3, [9, 0], []), (36, .getfield 146, 3, [0, 2], []), (39, .iload_n 1, 1, [], []), (40, .aaload, 1, [], []), (41, .getfield 174, 3, [8, 0], []), (44, .iload_n 2, 1, [], []), (45, .aaload, 1, [], []), (46, .astore 4, 2, [], []), (48, .iload_n 3, 1, [], []), (49, .tableswitch 45 0 2 #[27, 33, 39], 27, [94, 76, 82, 88], []), (76, .aload 4, 2, [], []), (78, .getfield 178, 3, [6, 1], []), (81, .ireturn, 1, [], []), (82, .aload 4, 2, [], []), (84, .getfield 183, 3, [6, 3], []), (87, .ireturn, 1, [], []), (88, .aload 4, 2, [], []), (90, .getfield 186, 3, [6, 2], []), (93, .ireturn, 1, [], []), (94, .aload_n 0, 1, [], []), (95, .getfield 10, 3, [9, 0], []), (98, .iload_n 1, 1, [], []), (99, .iload_n 2, 1, [], []), (100, .invokevirtual 189, 3, [3, 12, 4, 1], []), (103, .ifCond .eq 7, 3, [110, 0], []), (106, .iconst 1, 1, [1], []), (107, .goto 4, 3, [111, 0], []), (110, .iconst 0, 1, [0], []), (111, .ireturn, 1, [], [])]
def k_X9_frame : List mE := [(0, .aload_n 0, 1, [], []), (1, .iload_n 1, 1, [], []), (2, .invokevirtual 143, 3, [2, 101, 2, 1], []), (5, .ifCond .eq 21, 3, [26, 0], []), (8, .iload_n 2, 1, [], []), (9, .invokestatic 101, 3, [1, 102, 1, 1], []), (12, .ifCond .eq 14, 3, [26, 0], []), (15, .iload 4, 2, [], []), (17, .ifCond .lt 9, 3, [26, 0], []), (20, .iload 4, 2, [], []), (22, .iconst 3, 1, [3], []), (23, .if_icmp .le 11, 3, [34, 0], []), (26, .new 98, 3, [], []), (29, .dup, 1, [], []), (30, .invokespecial 100, 3, [], []), (33, .athrow, 1, [], []), (34, .aload_n 0, 1, [], []), (35, .getfield 10, 3, [9, 0], []), (38, .getfield 146, 3, [0, 2], []), (41, .iload_n 1, 1, [], []), (42, .aaload, 1, [], []), (43, .getfield 174, 3, [8, 0], []), (46, .iload_n 2, 1, [], []), (47, .aaload, 1, [], []), (48, .astore 5, 2, [], []), (50, .iload_n 3, 1, [], []), (51, .ifCond .lt 12, 3, [63, 0], []), (54, .iload_n 3, 1, [], []), (55, .aload 5, 2, [], []), (57, .getfield 178, 3, [6, 1], []), (60, .if_icmp .lt 11, 3, [71, 0], []), (63, .new 98, 3, [], []), (66, .dup, 1, [], []), (67, .invokespecial 100, 3, [], []), (70, .athrow, 1, [], []), (71, .aload 5, 2, [], []), (73, .getfield 193, 3, [6, 0], []), (76, .iload_n 3, 1, [], []), (77, .iconst 5, 1, [5], []), (78, .imul, 1, [], []), (79, .iload 4, 2, [], []), (81, .iadd, 1, [], []), (82, .iaload, 1, [], []), (83, .ireturn, 1, [], [])]
def k_X9_exchange : List mE := [(0, .aload_n 0, 1, [], []), (1, .iload_n 1, 1, [], []), (2, .invokevirtual 143, 3, [2, 101, 2, 1], []), (5, .ifCond .ne 5, 3, [10, 0], []), (8, .iconst (-1), 1, [], []), (9, .ireturn, 1, [], []), (10, .aload_n 0, 1, [], []), (11, .getfield 10, 3, [9, 0], []), (14, .getfield 146, 3, [0, 2], []), (17, .iload_n 1, 1, [], []), (18, .aaload, 1, [], []), (19, .getfield 196, 3, [8, 1], []), (22, .astore_n 3, 1, [], []), (23, .aload_n 3, 1, [], []), (24, .getfield 200, 3, [2, 0], []), (27, .ifCond .ne 5, 3, [32, 0], []), (30, .iconst (-1), 1, [], []), (31, .ireturn, 1, [], []), (32, .iload_n 2, 1, [], []), (33, .tableswitch 90 0 6 #[43, 48, 53, 58, 63, 68, 85], 43, [123, 76, 81, 86, 91, 96, 101, 118], []), (76, .aload_n 3, 1, [], []), (77, .getfield 206, 3, [2, 1], []), (80, .ireturn, 1, [], []), (81, .aload_n 3, 1, [], []), (82, .getfield 209, 3, [2, 2], []), (85, .ireturn, 1, [], []), (86, .aload_n 3, 1, [], []), (87, .getfield 212, 3, [2, 3], []), (90, .ireturn, 1, [], []), (91, .aload_n 3, 1, [], []), (92, .getfield 214, 3, [2, 4], []), (95, .ireturn, 1, [], []), (96, .aload_n 3, 1, [], []), (97, .getfield 217, 3, [2, 5], []), (100, .ireturn, 1, [], []), (101, .aload_n 3, 1, [], []), (102, .getfield 217, 3, [2, 5], []), (105, .iconst 2, 1, [2], []), (106, .if_icmp .ne 10, 3, [116, 0], []), (109, .aload_n 3, 1, [], []), (110, .getfield 220, 3, [2, 6], []), (113, .goto 4, 3, [117, 0], []), (116, .iconst 1, 1, [1], []), (117, .ireturn, 1, [], []), (118, .aload_n 3, 1, [], []), (119, .getfield 223, 3, [2, 7], []), (122, .ireturn, 1, [], []), (123, .iconst (-1), 1, [], []), (124, .ireturn, 1, [], [])]
def k_X9_sent : List mE := [(0, .aload_n 0, 1, [], []), (1, .getfield 10, 3, [9, 0], []), (4, .getfield 226, 3, [0, 4], []), (7, .ifCond .ne 6, 3, [13, 0], []), (10, .bipush (-2), 2, [], []), (12, .ireturn, 1, [], []), (13, .aload_n 0, 1, [], []), (14, .getfield 51, 3, [9, 7], []), (17, .aload_n 0, 1, [], []), (18, .getfield 10, 3, [9, 0], []), (21, .getfield 229, 3, [0, 6], []), (24, .i2l, 1, [], []), (25, .aload_n 0, 1, [], []), (26, .getfield 10, 3, [9, 0], []), (29, .getfield 232, 3, [0, 7], []), (32, .i2l, 1, [], []), (33, .invokevirtual 235, 3, [3, 43, 5, 0], []), (36, .aload_n 0, 1, [], []), (37, .getfield 10, 3, [9, 0], []), (40, .getfield 239, 3, [0, 5], []), (43, .ireturn, 1, [], [])]
def k_X9_spanOf : List mE := [(0, .aload_n 0, 1, [], []), (1, .iload_n 1, 1, [], []), (2, .invokevirtual 143, 3, [2, 101, 2, 1], []), (5, .ifCond .ne 5, 3, [10, 0], []), (8, .iconst (-1), 1, [], []), (9, .ireturn, 1, [], []), (10, .aload_n 0, 1, [], []), (11, .getfield 10, 3, [9, 0], []), (14, .getfield 146, 3, [0, 2], []), (17, .iload_n 1, 1, [], []), (18, .aaload, 1, [], []), (19, .astore_n 2, 1, [], []), (20, .aload_n 2, 1, [], []), (21, .getfield 155, 3, [8, 8], []), (24, .aload_n 0, 1, [], []), (25, .getfield 10, 3, [9, 0], []), (28, .getfield 226, 3, [0, 4], []), (31, .if_icmp .gt 6, 3, [37, 0], []), (34, .bipush (-2), 2, [], []), (36, .ireturn, 1, [], []), (37, .aload_n 0, 1, [], []), (38, .getfield 51, 3, [9, 7], []), (41, .aload_n 2, 1, [], []), (42, .getfield 242, 3, [8, 10], []), (45, .i2l, 1, [], []), (46, .aload_n 2, 1, [], []), (47, .getfield 155, 3, [8, 8], []), (50, .aload_n 0, 1, [], []), (51, .getfield 10, 3, [9, 0], []), (54, .getfield 226, 3, [0, 4], []), (57, .isub, 1, [], []), (58, .i2l, 1, [], []), (59, .invokevirtual 235, 3, [3, 43, 5, 0], []), (62, .aload_n 2, 1, [], []), (63, .getfield 245, 3, [8, 9], []), (66, .ireturn, 1, [], [])]
def k_X9_rate : List mE := [(0, .aload_n 0, 1, [], []), (1, .iload_n 1, 1, [], []), (2, .invokevirtual 143, 3, [2, 101, 2, 1], []), (5, .ifCond .eq 16, 3, [21, 0], []), (8, .aload_n 0, 1, [], []), (9, .iload_n 2, 1, [], []), (10, .invokevirtual 143, 3, [2, 101, 2, 1], []), (13, .ifCond .eq 8, 3, [21, 0], []), (16, .iload_n 1, 1, [], []), (17, .iload_n 2, 1, [], []), (18, .if_icmp .ne 5, 3, [23, 0], []), (21, .iconst (-1), 1, [], []), (22, .ireturn, 1, [], []), (23, .aload_n 0, 1, [], []), (24, .getfield 10, 3, [9, 0], []), (27, .iload_n 1, 1, [], []), (28, .iload_n 2, 1, [], []), (29, .invokevirtual 248, 3, [3, 3, 3, 1], []), (32, .ifCond .ne 6, 3, [38, 0], []), (35, .bipush (-2), 2, [], []), (37, .ireturn, 1, [], []), (38, .aload_n 0, 1, [], []), (39, .getfield 10, 3, [9, 0], []), (42, .getfield 146, 3, [0, 2], []), (45, .iload_n 1, 1, [], []), (46, .aaload, 1, [], []), (47, .astore_n 3, 1, [], []), (48, .aload_n 0, 1, [], []), (49, .getfield 51, 3, [9, 7], []), (52, .aload_n 3, 1, [], []), (53, .getfield 251, 3, [8, 5], []), (56, .iload_n 2, 1, [], []), (57, .iaload, 1, [], []), (58, .i2l, 1, [], []), (59, .aload_n 3, 1, [], []), (60, .getfield 254, 3, [8, 3], []), (63, .iload_n 2, 1, [], []), (64, .iaload, 1, [], []), (65, .i2l, 1, [], []), (66, .invokevirtual 235, 3, [3, 43, 5, 0], []), (69, .aload_n 3, 1, [], []), (70, .getfield 257, 3, [8, 4], []), (73, .iload_n 2, 1, [], []), (74, .iaload, 1, [], []), (75, .ireturn, 1, [], [])]
def k_X9_hidden : List mE := [(0, .aload_n 0, 1, [], []), (1, .getfield 51, 3, [9, 7], []), (4, .invokevirtual 260, 3, [1, 40, 1, 0], []), (7, .iconst 0, 1, [0], []), (8, .istore_n 1, 1, [], []), (9, .iload_n 1, 1, [], [1, 1, 0, 0]), (10, .aload_n 0, 1, [], []), (11, .getfield 10, 3, [9, 0], []), (14, .getfield 112, 3, [0, 3], []), (17, .if_icmp .ge 96, 3, [113, 0], []), (20, .iload_n 1, 1, [], []), (21, .iconst 1, 1, [1], []), (22, .iadd, 1, [], []), (23, .istore_n 2, 1, [], []), (24, .iload_n 2, 1, [], [1, 1, 1, 0]), (25, .aload_n 0, 1, [], []), (26, .getfield 10, 3, [9, 0], []), (29, .getfield 112, 3, [0, 3], []), (32, .if_icmp .ge 75, 3, [107, 0], []), (35, .aload_n 0, 1, [], []), (36, .getfield 10, 3, [9, 0], []), (39, .getfield 146, 3, [0, 2], []), (42, .iload_n 1, 1, [], []), (43, .aaload, 1, [], []), (44, .getfield 168, 3, [8, 6], []), (47, .aload_n 0, 1, [], []), (48, .getfield 10, 3, [9, 0], []), (51, .getfield 146, 3, [0, 2], []), (54, .iload_n 2, 1, [], []), (55, .aaload, 1, [], []), (56, .getfield 168, 3, [8, 6], []), (59, .iand, 1, [], []), (60, .ifCond .eq 7, 3, [67, 0], []), (63, .iconst 1, 1, [1], []), (64, .goto 4, 3, [68, 0], []), (67, .iconst 0, 1, [0], []), (68, .istore_n 3, 1, [], []), (69, .iload_n 3, 1, [], []), (70, .ifCond .eq 31, 3, [101, 0], []), (73, .aload_n 0, 1, [], []), (74, .getfield 10, 3, [9, 0], []), (77, .iload_n 1, 1, [], []), (78, .iload_n 2, 1, [], []), (79, .invokevirtual 248, 3, [3, 3, 3, 1], []), (82, .ifCond .ne 19, 3, [101, 0], []), (85, .aload_n 0, 1, [], []), (86, .getfield 51, 3, [9, 7], []), (89, .ldc2_w 263, 3, [6], []), (92, .iload_n 1, 1, [], []), (93, .i2l, 1, [], []), (94, .lmul, 1, [], []), (95, .iload_n 2, 1, [], []), (96, .i2l, 1, [], []), (97, .ladd, 1, [], []), (98, .invokevirtual 265, 3, [2, 41, 3, 0], []), (101, .iinc 2 1, 3, [], []), (104, .goto (-80), 3, [24, 1, 1, 1, 1, 0], []), (107, .iinc 1 1, 3, [], []), (110, .goto (-101), 3, [9, 1, 1, 1, 0, 0], []), (113, .aload_n 0, 1, [], []), (114, .getfield 51, 3, [9, 7], []), (117, .getfield 269, 3, [4, 1], []), (120, .ireturn, 1, [], [])]
def k_X9_tally : List mE := [(0, .aload_n 0, 1, [], []), (1, .iload_n 1, 1, [], []), (2, .invokevirtual 143, 3, [2, 101, 2, 1], []), (5, .ifCond .eq 13, 3, [18, 0], []), (8, .iload_n 2, 1, [], []), (9, .ifCond .lt 9, 3, [18, 0], []), (12, .iload_n 2, 1, [], []), (13, .bipush 9, 2, [9], []), (15, .if_icmp .lt 11, 3, [26, 0], []), (18, .new 98, 3, [], []), (21, .dup, 1, [], []), (22, .invokespecial 100, 3, [], []), (25, .athrow, 1, [], []), (26, .aload_n 0, 1, [], []), (27, .getfield 10, 3, [9, 0], []), (30, .getfield 146, 3, [0, 2], []), (33, .iload_n 1, 1, [], []), (34, .aaload, 1, [], []), (35, .getfield 270, 3, [8, 2], []), (38, .getfield 274, 3, [3, 0], []), (41, .iload_n 2, 1, [], []), (42, .iaload, 1, [], []), (43, .ireturn, 1, [], [])]
def k_X9_why : List mE := [(0, .aload_n 0, 1, [], []), (1, .iload_n 1, 1, [], []), (2, .invokevirtual 143, 3, [2, 101, 2, 1], []), (5, .ifCond .ne 5, 3, [10, 0], []), (8, .iconst (-1), 1, [], []), (9, .ireturn, 1, [], []), (10, .aload_n 0, 1, [], []), (11, .getfield 10, 3, [9, 0], []), (14, .getfield 146, 3, [0, 2], []), (17, .iload_n 1, 1, [], []), (18, .aaload, 1, [], []), (19, .getfield 270, 3, [8, 2], []), (22, .astore_n 2, 1, [], []), (23, .aload_n 2, 1, [], []), (24, .getfield 279, 3, [3, 3], []), (27, .ifCond .ne 6, 3, [33, 0], []), (30, .bipush (-2), 2, [], []), (32, .ireturn, 1, [], []), (33, .aload_n 0, 1, [], []), (34, .getfield 51, 3, [9, 7], []), (37, .aload_n 2, 1, [], []), (38, .getfield 282, 3, [3, 4], []), (41, .i2l, 1, [], []), (42, .aload_n 2, 1, [], []), (43, .getfield 285, 3, [3, 5], []), (46, .i2l, 1, [], []), (47, .invokevirtual 235, 3, [3, 43, 5, 0], []), (50, .aload_n 2, 1, [], []), (51, .getfield 279, 3, [3, 3], []), (54, .ireturn, 1, [], [])]
def k_X9_spoilt : List mE := [(0, .aload_n 0, 1, [], []), (1, .iload_n 1, 1, [], []), (2, .invokevirtual 143, 3, [2, 101, 2, 1], []), (5, .ifCond .eq 16, 3, [21, 0], []), (8, .aload_n 0, 1, [], []), (9, .iload_n 2, 1, [], []), (10, .invokevirtual 143, 3, [2, 101, 2, 1], []), (13, .ifCond .eq 8, 3, [21, 0], []), (16, .iload_n 1, 1, [], []), (17, .iload_n 2, 1, [], []), (18, .if_icmp .ne 5, 3, [23, 0], []), (21, .iconst (-1), 1, [], []), (22, .ireturn, 1, [], []), (23, .aload_n 0, 1, [], []), (24, .getfield 10, 3, [9, 0], []), (27, .getfield 146, 3, [0, 2], []), (30, .iload_n 1, 1, [], []), (31, .aaload, 1, [], []), (32, .getfield 270, 3, [8, 2], []), (35, .astore_n 3, 1, [], []), (36, .aload_n 0, 1, [], []), (37, .getfield 51, 3, [9, 7], []), (40, .aload_n 3, 1, [], []), (41, .getfield 288, 3, [3, 2], []), (44, .i2l, 1, [], []), (45, .invokevirtual 291, 3, [2, 42, 3, 0], []), (48, .aload_n 3, 1, [], []), (49, .getfield 294, 3, [3, 1], []), (52, .iload_n 2, 1, [], []), (53, .iaload, 1, [], []), (54, .ireturn, 1, [], [])]
def k_X9_held : List mE := [(0, .aload_n 0, 1, [], []), (1, .iload_n 1, 1, [], []), (2, .invokevirtual 143, 3, [2, 101, 2, 1], []), (5, .ifCond .ne 5, 3, [10, 0], []), (8, .iconst (-1), 1, [], []), (9, .ireturn, 1, [], []), (10, .aload_n 0, 1, [], []), (11, .getfield 10, 3, [9, 0], []), (14, .getfield 146, 3, [0, 2], []), (17, .iload_n 1, 1, [], []), (18, .aaload, 1, [], []), (19, .getfield 270, 3, [8, 2], []), (22, .astore_n 2, 1, [], []), (23, .aload_n 0, 1, [], []), (24, .getfield 51, 3, [9, 7], []), (27, .aload_n 2, 1, [], []), (28, .getfield 297, 3, [3, 6], []), (31, .i2l, 1, [], []), (32, .aload_n 2, 1, [], []), (33, .getfield 300, 3, [3, 7], []), (36, .i2l, 1, [], []), (37, .aload_n 2, 1, [], []), (38, .getfield 303, 3, [3, 8], []), (41, .i2l, 1, [], []), (42, .invokevirtual 136, 3, [4, 44, 7, 0], []), (45, .aload_n 2, 1, [], []), (46, .getfield 297, 3, [3, 6], []), (49, .aload_n 2, 1, [], []), (50, .getfield 300, 3, [3, 7], []), (53, .iadd, 1, [], []), (54, .aload_n 2, 1, [], []), (55, .getfield 303, 3, [3, 8], []), (58, .iadd, 1, [], []), (59, .ireturn, 1, [], [])]
def k_X9_even : List mE := [(0, .lconst 0, 1, [0], []), (1, .lstore_n 1, 1, [], []), (2, .lconst 0, 1, [0], []), (3, .lstore_n 3, 1, [], []), (4, .iconst 0, 1, [0], []), (5, .istore 5, 2, [], []), (7, .iload 5, 2, [], [1, 1, 0, 1, 0, 1, 0, 0]), (9, .aload_n 0, 1, [], []), (10, .getfield 10, 3, [9, 0], []), (13, .getfield 112, 3, [0, 3], []), (16, .if_icmp .ge 43, 3, [59, 0], []), (19, .aload_n 0, 1, [], []), (20, .getfield 10, 3, [9, 0], []), (23, .getfield 146, 3, [0, 2], []), (26, .iload 5, 2, [], []), (28, .aaload, 1, [], []), (29, .getfield 270, 3, [8, 2], []), (32, .getfield 274, 3, [3, 0], []), (35, .iconst 1, 1, [1], []), (36, .iaload, 1, [], []), (37, .i2l, 1, [], []), (38, .lstore 6, 2, [], []), (40, .lload_n 1, 1, [], []), (41, .lload 6, 2, [], []), (43, .ladd, 1, [], []), (44, .lstore_n 1, 1, [], []), (45, .lload_n 3, 1, [], []), (46, .lload 6, 2, [], []), (48, .lload 6, 2, [], []), (50, .lmul, 1, [], []), (51, .ladd, 1, [], []), (52, .lstore_n 3, 1, [], []), (53, .iinc 5 1, 3, [], []), (56, .goto (-49), 3, [7, 1, 1, 1, 0, 1, 0, 1, 0, 0], []), (59, .lload_n 1, 1, [], []), (60, .lconst 0, 1, [0], []), (61, .lcmp, 1, [], []), (62, .ifCond .ne 6, 3, [68, 0], []), (65, .bipush (-2), 2, [], []), (67, .ireturn, 1, [], []), (68, .aload_n 0, 1, [], []), (69, .getfield 51, 3, [9, 7], []), (72, .lload_n 1, 1, [], []), (73, .lload_n 1, 1, [], []), (74, .lmul, 1, [], []), (75, .aload_n 0, 1, [], []), (76, .getfield 10, 3, [9, 0], []), (79, .getfield 112, 3, [0, 3], []), (82, .i2l, 1, [], []), (83, .lload_n 3, 1, [], []), (84, .lmul, 1, [], []), (85, .invokevirtual 306, 3, [3, 45, 12, 0], []), (88, .iconst 0, 1, [0], []), (89, .ireturn, 1, [], [])]
def k_X9_busy : List mE := [(0, .aload_n 0, 1, [], []), (1, .getfield 51, 3, [9, 7], []), (4, .aload_n 0, 1, [], []), (5, .getfield 10, 3, [9, 0], []), (8, .getfield 309, 3, [0, 10], []), (11, .i2l, 1, [], []), (12, .aload_n 0, 1, [], []), (13, .getfield 10, 3, [9, 0], []), (16, .getfield 312, 3, [0, 11], []), (19, .i2l, 1, [], []), (20, .invokevirtual 235, 3, [3, 43, 5, 0], []), (23, .aload_n 0, 1, [], []), (24, .getfield 10, 3, [9, 0], []), (27, .getfield 315, 3, [0, 9], []), (30, .ireturn, 1, [], [])]
def k_X9_odds : List mE := [(0, .iload_n 1, 1, [], []), (1, .iconst 1, 1, [1], []), (2, .if_icmp .lt 18, 3, [20, 0], []), (5, .iload_n 1, 1, [], []), (6, .iconst 5, 1, [5], []), (7, .if_icmp .gt 13, 3, [20, 0], []), (10, .iload_n 2, 1, [], []), (11, .ifCond .lt 9, 3, [20, 0], []), (14, .iload_n 2, 1, [], []), (15, .bipush 31, 2, [31], []), (17, .if_icmp .le 5, 3, [22, 0], []), (20, .iconst (-1), 1, [], []), (21, .ireturn, 1, [], []), (22, .aload_n 0, 1, [], []), (23, .getfield 51, 3, [9, 7], []), (26, .iload_n 1, 1, [], []), (27, .iload_n 2, 1, [], []), (28, .invokestatic 318, 3, [2, 106, 5, 2], []), (31, .iload_n 2, 1, [], []), (32, .iconst 1, 1, [1], []), (33, .iadd, 1, [], []), (34, .iload_n 1, 1, [], []), (35, .invokestatic 322, 3, [2, 107, 5, 2], []), (38, .invokevirtual 306, 3, [3, 45, 12, 0], []), (41, .iconst 0, 1, [0], []), (42, .ireturn, 1, [], [])]
def k_X9_window : List mE := [(0, .iload_n 1, 1, [], []), (1, .iconst 1, 1, [1], []), (2, .if_icmp .lt 18, 3, [20, 0], []), (5, .iload_n 1, 1, [], []), (6, .iconst 5, 1, [5], []), (7, .if_icmp .gt 13, 3, [20, 0], []), (10, .iload_n 2, 1, [], []), (11, .ifCond .lt 9, 3, [20, 0], []), (14, .iload_n 2, 1, [], []), (15, .bipush 100, 2, [100], []), (17, .if_icmp .le 5, 3, [22, 0], []), (20, .iconst (-1), 1, [], []), (21, .ireturn, 1, [], []), (22, .iconst 0, 1, [0], []), (23, .istore_n 3, 1, [], []), (24, .iload_n 3, 1, [], [0, 1, 1, 1]), (25, .bipush 31, 2, [31], []), (27, .if_icmp .gt 34, 3, [61, 0], []), (30, .ldc2_w 325, 3, [100], []), (33, .iload_n 1, 1, [], []), (34, .iload_n 3, 1, [], []), (35, .invokestatic 318, 3, [2, 106, 5, 2], []), (38, .lmul, 1, [], []), (39, .iload_n 2, 1, [], []), (40, .i2l, 1, [], []), (41, .iload_n 3, 1, [], []), (42, .iconst 1, 1, [1], []), (43, .iadd, 1, [], []), (44, .iload_n 1, 1, [], []), (45, .invokestatic 322, 3, [2, 107, 5, 2], []), (48, .lmul, 1, [], []), (49, .lcmp, 1, [], []), (50, .ifCond .lt 5, 3, [55, 0], []), (53, .iload_n 3, 1, [], []), (54, .ireturn, 1, [], []), (55, .iinc 3 1, 3, [], []), (58, .goto (-34), 3, [24, 1, 0, 1, 1, 1], []), (61, .bipush (-2), 2, [], []), (63, .ireturn, 1, [], [])]
def k_X9_ahead : List mE := [(0, .iload_n 1, 1, [], []), (1, .iconst 1, 1, [1], []), (2, .if_icmp .lt 18, 3, [20, 0], []), (5, .iload_n 1, 1, [], []), (6, .bipush 60, 2, [60], []), (8, .if_icmp .gt 12, 3, [20, 0], []), (11, .iload_n 2, 1, [], []), (12, .ifCond .lt 8, 3, [20, 0], []), (15, .iload_n 2, 1, [], []), (16, .iconst 4, 1, [4], []), (17, .if_icmp .le 5, 3, [22, 0], []), (20, .iconst (-1), 1, [], []), (21, .ireturn, 1, [], []), (22, .aload_n 0, 1, [], []), (23, .getfield 16, 3, [9, 1], []), (26, .aload_n 0, 1, [], []), (27, .getfield 10, 3, [9, 0], []), (30, .invokevirtual 327, 3, [2, 0, 3, 0], []), (33, .iconst 0, 1, [0], []), (34, .istore_n 3, 1, [], []), (35, .iload_n 3, 1, [], [1, 1, 1, 1]), (36, .iload_n 1, 1, [], []), (37, .if_icmp .ge 16, 3, [53, 0], []), (40, .aload_n 0, 1, [], []), (41, .getfield 16, 3, [9, 1], []), (44, .invokevirtual 133, 3, [1, 13, 3, 0], []), (47, .iinc 3 1, 3, [], []), (50, .goto (-15), 3, [35, 1, 1, 1, 1, 1], []), (53, .iload_n 2, 1, [], []), (54, .tableswitch 92 0 3 #[30, 48, 66, 84], 30, [146, 84, 102, 120, 138], []), (84, .aload_n 0, 1, [], []), (85, .getfield 16, 3, [9, 1], []), (88, .iconst 0, 1, [0], []), (89, .invokevirtual 130, 3, [2, 4, 4, 1], []), (92, .aload_n 0, 1, [], []), (93, .getfield 10, 3, [9, 0], []), (96, .iconst 0, 1, [0], []), (97, .invokevirtual 130, 3, [2, 4, 4, 1], []), (100, .isub, 1, [], []), (101, .ireturn, 1, [], []), (102, .aload_n 0, 1, [], []), (103, .getfield 16, 3, [9, 1], []), (106, .iconst 2, 1, [2], []), (107, .invokevirtual 130, 3, [2, 4, 4, 1], []), (110, .aload_n 0, 1, [], []), (111, .getfield 10, 3, [9, 0], []), (114, .iconst 2, 1, [2], []), (115, .invokevirtual 130, 3, [2, 4, 4, 1], []), (118, .isub, 1, [], []), (119, .ireturn, 1, [], []), (120, .aload_n 0, 1, [], []), (121, .getfield 16, 3, [9, 1], []), (124, .iconst 4, 1, [4], []), (125, .invokevirtual 130, 3, [2, 4, 4, 1], []), (128, .aload_n 0, 1, [], []), (129, .getfield 10, 3, [9, 0], []), (132, .iconst 4, 1, [4], []), (133, .invokevirtual 130, 3, [2, 4, 4, 1], []), (136, .isub, 1, [], []), (137, .ireturn, 1, [], []), (138, .aload_n 0, 1, [], []), (139, .getfield 16, 3, [9, 1], []), (142, .invokevirtual 330, 3, [1, 5, 3, 1], []), (145, .ireturn, 1, [], []), (146, .aload_n 0, 1, [], []), (147, .getfield 16, 3, [9, 1], []), (150, .getfield 239, 3, [0, 5], []), (153, .ireturn, 1, [], [])]
def k_X9_quiet : List mE := [(0, .aload_n 0, 1, [], []), (1, .getfield 16, 3, [9, 1], []), (4, .aload_n 0, 1, [], []), (5, .getfield 10, 3, [9, 0], []), (8, .invokevirtual 327, 3, [2, 0, 3, 0], []), (11, .iconst 0, 1, [0], []), (12, .istore_n 1, 1, [], []), (13, .iload_n 1, 1, [], [1, 1]), (14, .bipush 99, 2, [99], []), (16, .if_icmp .gt 63, 3, [79, 0], []), (19, .aload_n 0, 1, [], []), (20, .getfield 16, 3, [9, 1], []), (23, .invokevirtual 330, 3, [1, 5, 3, 1], []), (26, .ifCond .ne 40, 3, [66, 0], []), (29, .aload_n 0, 1, [], []), (30, .getfield 16, 3, [9, 1], []), (33, .invokevirtual 104, 3, [1, 6, 3, 1], []), (36, .ifCond .ne 30, 3, [66, 0], []), (39, .aload_n 0, 1, [], []), (40, .getfield 51, 3, [9, 7], []), (43, .aload_n 0, 1, [], []), (44, .getfield 16, 3, [9, 1], []), (47, .iconst 0, 1, [0], []), (48, .invokevirtual 130, 3, [2, 4, 4, 1], []), (51, .aload_n 0, 1, [], []), (52, .getfield 10, 3, [9, 0], []), (55, .iconst 0, 1, [0], []), (56, .invokevirtual 130, 3, [2, 4, 4, 1], []), (59, .isub, 1, [], []), (60, .i2l, 1, [], []), (61, .invokevirtual 291, 3, [2, 42, 3, 0], []), (64, .iload_n 1, 1, [], []), (65, .ireturn, 1, [], []), (66, .aload_n 0, 1, [], []), (67, .getfield 16, 3, [9, 1], []), (70, .invokevirtual 133, 3, [1, 13, 3, 0], []), (73, .iinc 1 1, 3, [], []), (76, .goto (-63), 3, [13, 1, 1, 1], []), (79, .bipush (-2), 2, [], []), (81, .ireturn, 1, [], [])]
def k_X9_next : List mE := [(0, .aload_n 0, 1, [], []), (1, .getfield 16, 3, [9, 1], []), (4, .aload_n 0, 1, [], []), (5, .getfield 10, 3, [9, 0], []), (8, .invokevirtual 327, 3, [2, 0, 3, 0], []), (11, .iconst 0, 1, [0], []), (12, .istore_n 1, 1, [], []), (13, .iload_n 1, 1, [], [1, 1]), (14, .bipush 99, 2, [99], []), (16, .if_icmp .gt 43, 3, [59, 0], []), (19, .aload_n 0, 1, [], []), (20, .getfield 16, 3, [9, 1], []), (23, .invokevirtual 133, 3, [1, 13, 3, 0], []), (26, .aload_n 0, 1, [], []), (27, .getfield 16, 3, [9, 1], []), (30, .getfield 331, 3, [0, 8], []), (33, .ifCond .eq 20, 3, [53, 0], []), (36, .aload_n 0, 1, [], []), (37, .getfield 51, 3, [9, 7], []), (40, .aload_n 0, 1, [], []), (41, .getfield 16, 3, [9, 1], []), (44, .getfield 331, 3, [0, 8], []), (47, .i2l, 1, [], []), (48, .invokevirtual 291, 3, [2, 42, 3, 0], []), (51, .iload_n 1, 1, [], []), (52, .ireturn, 1, [], []), (53, .iinc 1 1, 3, [], []), (56, .goto (-43), 3, [13, 1, 1, 1], []), (59, .bipush (-2), 2, [], []), (61, .ireturn, 1, [], [])]
def k_X9_soonest : List mE := [(0, .aload_n 0, 1, [], []), (1, .iload_n 1, 1, [], []), (2, .invokevirtual 143, 3, [2, 101, 2, 1], []), (5, .ifCond .ne 5, 3, [10, 0], []), (8, .iconst (-1), 1, [], []), (9, .ireturn, 1, [], []), (10, .bipush (-2), 2, [], []), (12, .istore_n 2, 1, [], []), (13, .bipush 100, 2, [100], []), (15, .istore_n 3, 1, [], []), (16, .iconst 0, 1, [0], []), (17, .istore 4, 2, [], []), (19, .iload 4, 2, [], [1, 1, 1, 1, 1, 0]), (21, .aload_n 0, 1, [], []), (22, .getfield 10, 3, [9, 0], []), (25, .getfield 112, 3, [0, 3], []), (28, .if_icmp .ge 45, 3, [73, 0], []), (31, .aload_n 0, 1, [], []), (32, .getfield 10, 3, [9, 0], []), (35, .iload 4, 2, [], []), (37, .iconst 0, 1, [0], []), (38, .iload_n 1, 1, [], []), (39, .iconst 1, 1, [1], []), (40, .invokevirtual 123, 3, [5, 8, 5, 1], []), (43, .ifCond .ne 24, 3, [67, 0], []), (46, .aload_n 0, 1, [], []), (47, .iload 4, 2, [], []), (49, .iload_n 1, 1, [], []), (50, .invokevirtual 334, 3, [3, 108, 4, 1], []), (53, .istore 5, 2, [], []), (55, .iload 5, 2, [], []), (57, .iload_n 3, 1, [], []), (58, .if_icmp .ge 9, 3, [67, 0], []), (61, .iload 5, 2, [], []), (63, .istore_n 3, 1, [], []), (64, .iload 4, 2, [], []), (66, .istore_n 2, 1, [], []), (67, .iinc 4 1, 3, [], []), (70, .goto (-51), 3, [19, 1, 1, 1, 1, 1, 1, 0], []), (73, .iload_n 2, 1, [], []), (74, .ifCond .lt 12, 3, [86, 0], []), (77, .aload_n 0, 1, [], []), (78, .getfield 51, 3, [9, 7], []), (81, .iload_n 3, 1, [], []), (82, .i2l, 1, [], []), (83, .invokevirtual 291, 3, [2, 42, 3, 0], []), (86, .iload_n 2, 1, [], []), (87, .ireturn, 1, [], [])]
def k_X9_day : List mE := [(0, .aload_n 0, 1, [], []), (1, .invokevirtual 337, 3, [1, 110, 4, 1], []), (4, .istore_n 1, 1, [], []), (5, .iload_n 1, 1, [], []), (6, .ifCond .lt 15, 3, [21, 0], []), (9, .aload_n 0, 1, [], []), (10, .getfield 44, 3, [9, 6], []), (13, .iconst 0, 1, [0], []), (14, .putfield 63, 3, [7, 1], []), (17, .iconst (-1), 1, [], []), (18, .iload_n 1, 1, [], []), (19, .isub, 1, [], []), (20, .ireturn, 1, [], []), (21, .aload_n 0, 1, [], []), (22, .getfield 16, 3, [9, 1], []), (25, .aload_n 0, 1, [], []), (26, .getfield 10, 3, [9, 0], []), (29, .invokevirtual 327, 3, [2, 0, 3, 0], []), (32, .iconst 0, 1, [0], []), (33, .istore_n 2, 1, [], []), (34, .iconst 0, 1, [0], []), (35, .istore_n 3, 1, [], []), (36, .iconst 0, 1, [0], []), (37, .istore 4, 2, [], []), (39, .iconst 0, 1, [0], []), (40, .istore 5, 2, [], []), (42, .iload 5, 2, [], [1, 0, 1, 1, 1, 1]), (44, .bipush 80, 2, [80], []), (46, .if_icmp .ge 63, 3, [109, 0], []), (49, .iload 4, 2, [], []), (51, .aload_n 0, 1, [], []), (52, .getfield 44, 3, [9, 6], []), (55, .getfield 63, 3, [7, 1], []), (58, .if_icmp .ge 51, 3, [109, 0], []), (61, .iload_n 3, 1, [], []), (62, .ifCond .ne 47, 3, [109, 0], []), (65, .aload_n 0, 1, [], []), (66, .iload 4, 2, [], []), (68, .invokevirtual 340, 3, [2, 112, 7, 1], []), (71, .ifCond .ne 7, 3, [78, 0], []), (74, .iconst 1, 1, [1], []), (75, .goto 4, 3, [79, 0], []), (78, .iconst 0, 1, [0], []), (79, .istore_n 3, 1, [], []), (80, .iload_n 2, 1, [], []), (81, .iload_n 3, 1, [], []), (82, .ifCond .eq 7, 3, [89, 0], []), (85, .iconst 0, 1, [0], []), (86, .goto 4, 3, [90, 0], []), (89, .iconst 1, 1, [1], []), (90, .iadd, 1, [], []), (91, .istore_n 2, 1, [], []), (92, .iload 4, 2, [], []), (94, .aload_n 0, 1, [], []), (95, .iload 4, 2, [], []), (97, .invokevirtual 343, 3, [2, 109, 3, 1], []), (100, .iadd, 1, [], []), (101, .istore 4, 2, [], []), (103, .iinc 5 1, 3, [], []), (106, .goto (-64), 3, [42, 1, 1, 0, 1, 1, 1, 1], []), (109, .aload_n 0, 1, [], [1, 0, 1, 1, 0, 0]), (110, .getfield 44, 3, [9, 6], []), (113, .iconst 0, 1, [0], []), (114, .putfield 63, 3, [7, 1], []), (117, .aload_n 0, 1, [], []), (118, .getfield 51, 3, [9, 7], []), (121, .iload_n 3, 1, [], []), (122, .ifCond .eq 7, 3, [129, 0], []), (125, .lconst 1, 1, [1], []), (126, .goto 4, 3, [130, 0], []), (129, .lconst 0, 1, [0], []), (130, .aload_n 0, 1, [], []), (131, .getfield 10, 3, [9, 0], []), (134, .iconst 0, 1, [0], []), (135, .invokevirtual 130, 3, [2, 4, 4, 1], []), (138, .aload_n 0, 1, [], []), (139, .getfield 16, 3, [9, 1], []), (142, .iconst 0, 1, [0], []), (143, .invokevirtual 130, 3, [2, 4, 4, 1], []), (146, .isub, 1, [], []), (147, .i2l, 1, [], []), (148, .invokevirtual 235, 3, [3, 43, 5, 0], []), (151, .iload_n 2, 1, [], []), (152, .ifCond .le 14, 3, [166, 0], []), (155, .aload_n 0, 1, [], []), (156, .getfield 29, 3, [9, 3], []), (159, .aload_n 0, 1, [], []), (160, .getfield 16, 3, [9, 1], []), (163, .invokevirtual 78, 3, [2, 46, 2, 0], []), (166, .iload_n 2, 1, [], []), (167, .ireturn, 1, [], [])]
def k_X9_undo : List mE := [(0, .aload_n 0, 1, [], []), (1, .getfield 29, 3, [9, 3], []), (4, .aload_n 0, 1, [], []), (5, .getfield 10, 3, [9, 0], []), (8, .invokevirtual 346, 3, [2, 47, 2, 1], []), (11, .ifCond .eq 13, 3, [24, 0], []), (14, .aload_n 0, 1, [], []), (15, .getfield 29, 3, [9, 3], []), (18, .getfield 350, 3, [5, 1], []), (21, .goto 4, 3, [25, 0], []), (24, .iconst (-1), 1, [], []), (25, .ireturn, 1, [], [])]
def k_X9_years : List mE := [(0, .iload_n 2, 1, [], []), (1, .iconst 1, 1, [1], []), (2, .if_icmp .lt 9, 3, [11, 0], []), (5, .iload_n 2, 1, [], []), (6, .bipush 40, 2, [40], []), (8, .if_icmp .le 5, 3, [13, 0], []), (11, .iconst (-1), 1, [], []), (12, .ireturn, 1, [], []), (13, .aload_n 0, 1, [], []), (14, .getfield 16, 3, [9, 1], []), (17, .aload_n 0, 1, [], []), (18, .getfield 10, 3, [9, 0], []), (21, .invokevirtual 327, 3, [2, 0, 3, 0], []), (24, .aload_n 0, 1, [], []), (25, .getfield 22, 3, [9, 2], []), (28, .iload_n 1, 1, [], []), (29, .putfield 89, 3, [1, 0], []), (32, .iconst 0, 1, [0], []), (33, .istore_n 3, 1, [], []), (34, .iload_n 3, 1, [], [1, 0, 1, 1, 0, 0]), (35, .iload_n 2, 1, [], []), (36, .if_icmp .ge 64, 3, [100, 0], []), (39, .aload_n 0, 1, [], []), (40, .getfield 22, 3, [9, 2], []), (43, .iconst 3, 1, [3], []), (44, .invokevirtual 351, 3, [2, 34, 2, 1], []), (47, .iconst 2, 1, [2], []), (48, .if_icmp .ge 10, 3, [58, 0], []), (51, .aload_n 0, 1, [], []), (52, .invokevirtual 354, 3, [1, 113, 5, 0], []), (55, .goto 39, 3, [94, 0], []), (58, .aload_n 0, 1, [], []), (59, .getfield 22, 3, [9, 2], []), (62, .bipush 8, 2, [8], []), (64, .invokevirtual 351, 3, [2, 34, 2, 1], []), (67, .iconst 1, 1, [1], []), (68, .iadd, 1, [], []), (69, .istore 4, 2, [], []), (71, .iconst 0, 1, [0], []), (72, .istore 5, 2, [], []), (74, .iload 5, 2, [], [1, 0, 1, 1, 1, 1]), (76, .iload 4, 2, [], []), (78, .if_icmp .ge 16, 3, [94, 0], []), (81, .aload_n 0, 1, [], []), (82, .getfield 16, 3, [9, 1], []), (85, .invokevirtual 133, 3, [1, 13, 3, 0], []), (88, .iinc 5 1, 3, [], []), (91, .goto (-17), 3, [74, 1, 1, 0, 1, 1, 1, 1], []), (94, .iinc 3 1, 3, [], []), (97, .goto (-63), 3, [34, 1, 1, 0, 1, 1, 0, 0], []), (100, .aload_n 0, 1, [], []), (101, .getfield 51, 3, [9, 7], []), (104, .aload_n 0, 1, [], []), (105, .getfield 16, 3, [9, 1], []), (108, .iconst 2, 1, [2], []), (109, .invokevirtual 130, 3, [2, 4, 4, 1], []), (112, .aload_n 0, 1, [], []), (113, .getfield 10, 3, [9, 0], []), (116, .iconst 2, 1, [2], []), (117, .invokevirtual 130, 3, [2, 4, 4, 1], []), (120, .isub, 1, [], []), (121, .i2l, 1, [], []), (122, .aload_n 0, 1, [], []), (123, .getfield 16, 3, [9, 1], []), (126, .invokevirtual 330, 3, [1, 5, 3, 1], []), (129, .i2l, 1, [], []), (130, .aload_n 0, 1, [], []), (131, .getfield 16, 3, [9, 1], []), (134, .getfield 226, 3, [0, 4], []), (137, .aload_n 0, 1, [], []), (138, .getfield 10, 3, [9, 0], []), (141, .getfield 226, 3, [0, 4], []), (144, .isub, 1, [], []), (145, .i2l, 1, [], []), (146, .invokevirtual 136, 3, [4, 44, 7, 0], []), (149, .aload_n 0, 1, [], []), (150, .getfield 16, 3, [9, 1], []), (153, .iconst 0, 1, [0], []), (154, .invokevirtual 130, 3, [2, 4, 4, 1], []), (157, .aload_n 0, 1, [], []), (158, .getfield 10, 3, [9, 0], []), (161, .iconst 0, 1, [0], []), (162, .invokevirtual 130, 3, [2, 4, 4, 1], []), (165, .isub, 1, [], []), (166, .ireturn, 1, [], [])]
def k_X9_keep : List mE := [(0, .iload_n 1, 1, [], []), (1, .ifCond .lt 8, 3, [9, 0], []), (4, .iload_n 1, 1, [], []), (5, .iconst 2, 1, [2], []), (6, .if_icmp .lt 5, 3, [11, 0], []), (9, .iconst 0, 1, [0], []), (10, .ireturn, 1, [1], []), (11, .aload_n 0, 1, [], []), (12, .getfield 33, 3, [9, 4], []), (15, .iload_n 1, 1, [], []), (16, .aaload, 1, [], []), (17, .aload_n 0, 1, [], []), (18, .getfield 10, 3, [9, 0], []), (21, .invokevirtual 327, 3, [2, 0, 3, 0], []), (24, .aload_n 0, 1, [], []), (25, .getfield 37, 3, [9, 5], []), (28, .iload_n 1, 1, [], []), (29, .iconst 1, 1, [1], []), (30, .bastore, 1, [], []), (31, .iconst 1, 1, [1], []), (32, .ireturn, 1, [1], [])]
def k_X9_again : List mE := [(0, .iload_n 1, 1, [], []), (1, .ifCond .lt 17, 3, [18, 0], []), (4, .iload_n 1, 1, [], []), (5, .iconst 2, 1, [2], []), (6, .if_icmp .ge 12, 3, [18, 0], []), (9, .aload_n 0, 1, [], []), (10, .getfield 37, 3, [9, 5], []), (13, .iload_n 1, 1, [], []), (14, .baload, 1, [], []), (15, .ifCond .ne 5, 3, [20, 0], []), (18, .iconst 0, 1, [0], []), (19, .ireturn, 1, [1], []), (20, .aload_n 0, 1, [], []), (21, .getfield 10, 3, [9, 0], []), (24, .aload_n 0, 1, [], []), (25, .getfield 33, 3, [9, 4], []), (28, .iload_n 1, 1, [], []), (29, .aaload, 1, [], []), (30, .invokevirtual 327, 3, [2, 0, 3, 0], []), (33, .aload_n 0, 1, [], []), (34, .getfield 29, 3, [9, 3], []), (37, .iconst 0, 1, [0], []), (38, .putfield 350, 3, [5, 1], []), (41, .iconst 1, 1, [1], []), (42, .ireturn, 1, [1], [])]
def k_X9_count : List mE := [(0, .iload_n 1, 1, [], []), (1, .tableswitch 112 0 7 #[47, 55, 63, 71, 79, 87, 95, 103], 47, [113, 48, 56, 64, 72, 80, 88, 96, 104], []), (48, .aload_n 0, 1, [], []), (49, .getfield 10, 3, [9, 0], []), (52, .getfield 112, 3, [0, 3], []), (55, .ireturn, 1, [], []), (56, .aload_n 0, 1, [], []), (57, .getfield 10, 3, [9, 0], []), (60, .getfield 226, 3, [0, 4], []), (63, .ireturn, 1, [], []), (64, .aload_n 0, 1, [], []), (65, .getfield 10, 3, [9, 0], []), (68, .invokevirtual 330, 3, [1, 5, 3, 1], []), (71, .ireturn, 1, [], []), (72, .aload_n 0, 1, [], []), (73, .getfield 10, 3, [9, 0], []), (76, .invokevirtual 104, 3, [1, 6, 3, 1], []), (79, .ireturn, 1, [], []), (80, .aload_n 0, 1, [], []), (81, .getfield 29, 3, [9, 3], []), (84, .getfield 350, 3, [5, 1], []), (87, .ireturn, 1, [], []), (88, .aload_n 0, 1, [], []), (89, .getfield 51, 3, [9, 7], []), (92, .getfield 269, 3, [4, 1], []), (95, .ireturn, 1, [], []), (96, .aload_n 0, 1, [], []), (97, .getfield 44, 3, [9, 6], []), (100, .getfield 63, 3, [7, 1], []), (103, .ireturn, 1, [], []), (104, .aload_n 0, 1, [], []), (105, .getfield 10, 3, [9, 0], []), (108, .iconst 0, 1, [0], []), (109, .invokevirtual 130, 3, [2, 4, 4, 1], []), (112, .ireturn, 1, [], []), (113, .iconst (-1), 1, [], []), (114, .ireturn, 1, [], [])]
def k_X9_row : List mE := [(0, .iload_n 1, 1, [], []), (1, .ifCond .lt 14, 3, [15, 0], []), (4, .iload_n 1, 1, [], []), (5, .aload_n 0, 1, [], []), (6, .getfield 51, 3, [9, 7], []), (9, .getfield 269, 3, [4, 1], []), (12, .if_icmp .lt 11, 3, [23, 0], []), (15, .new 98, 3, [], []), (18, .dup, 1, [], []), (19, .invokespecial 100, 3, [], []), (22, .athrow, 1, [], []), (23, .aload_n 0, 1, [], []), (24, .getfield 51, 3, [9, 7], []), (27, .getfield 357, 3, [4, 0], []), (30, .iload_n 1, 1, [], []), (31, .laload, 1, [], []), (32, .lreturn, 1, [], [])]
def k_X9_isStation : List mE := [(0, .iload_n 1, 1, [], []), (1, .ifCond .lt 18, 3, [19, 0], []), (4, .iload_n 1, 1, [], []), (5, .aload_n 0, 1, [], []), (6, .getfield 10, 3, [9, 0], []), (9, .getfield 112, 3, [0, 3], []), (12, .if_icmp .ge 7, 3, [19, 0], []), (15, .iconst 1, 1, [1], []), (16, .goto 4, 3, [20, 0], []), (19, .iconst 0, 1, [0], []), (20, .ireturn, 1, [1], [])]
def k_X9_isRank : List mE := [(0, .iload_n 0, 1, [], []), (1, .ifCond .lt 12, 3, [13, 0], []), (4, .iload_n 0, 1, [], []), (5, .iconst 4, 1, [4], []), (6, .if_icmp .ge 7, 3, [13, 0], []), (9, .iconst 1, 1, [1], []), (10, .goto 4, 3, [14, 0], []), (13, .iconst 0, 1, [0], []), (14, .ireturn, 1, [1], [])]
def k_X9_readPairs : List mE := [(0, .iconst 0, 1, [0], []), (1, .istore_n 2, 1, [], []), (2, .iload_n 2, 1, [], [1, 1, 1, 0, 0, 0]), (3, .aload_n 0, 1, [], []), (4, .getfield 55, 3, [9, 8], []), (7, .arraylength, 1, [], []), (8, .if_icmp .ge 16, 3, [24, 0], []), (11, .aload_n 0, 1, [], []), (12, .getfield 55, 3, [9, 8], []), (15, .iload_n 2, 1, [], []), (16, .iconst 0, 1, [0], []), (17, .iastore, 1, [], []), (18, .iinc 2 1, 3, [], []), (21, .goto (-19), 3, [2, 1, 1, 1, 1, 0, 0, 0], []), (24, .iconst 1, 1, [1], []), (25, .istore_n 2, 1, [], []), (26, .iload_n 2, 1, [], [1, 1, 1, 0, 0, 0]), (27, .aload_n 0, 1, [], []), (28, .getfield 44, 3, [9, 6], []), (31, .getfield 63, 3, [7, 1], []), (34, .if_icmp .ge 119, 3, [153, 0], []), (37, .aload_n 0, 1, [], []), (38, .getfield 44, 3, [9, 6], []), (41, .iload_n 2, 1, [], []), (42, .iload_n 1, 1, [], []), (43, .invokevirtual 361, 3, [3, 58, 4, 1], []), (46, .istore_n 3, 1, [], []), (47, .iload_n 3, 1, [], []), (48, .ifCond .ge 5, 3, [53, 0], []), (51, .iload_n 2, 1, [], []), (52, .ireturn, 1, [], []), (53, .aload_n 0, 1, [], []), (54, .getfield 44, 3, [9, 6], []), (57, .iload_n 2, 1, [], []), (58, .iconst 1, 1, [1], []), (59, .iadd, 1, [], []), (60, .iload_n 1, 1, [], []), (61, .invokevirtual 361, 3, [3, 58, 4, 1], []), (64, .istore 4, 2, [], []), (66, .iload 4, 2, [], []), (68, .ifCond .lt 24, 3, [92, 0], []), (71, .iload 4, 2, [], []), (73, .iload_n 3, 1, [], []), (74, .if_icmp .eq 18, 3, [92, 0], []), (77, .aload_n 0, 1, [], []), (78, .getfield 55, 3, [9, 8], []), (81, .iload_n 3, 1, [], []), (82, .bipush 6, 2, [6], []), (84, .imul, 1, [], []), (85, .iload 4, 2, [], []), (87, .iadd, 1, [], []), (88, .iaload, 1, [], []), (89, .ifCond .eq 7, 3, [96, 0], []), (92, .iload_n 2, 1, [], []), (93, .iconst 1, 1, [1], []), (94, .iadd, 1, [], []), (95, .ireturn, 1, [], []), (96, .aload_n 0, 1, [], []), (97, .getfield 44, 3, [9, 6], []), (100, .iload_n 2, 1, [], []), (101, .iconst 2, 1, [2], []), (102, .iadd, 1, [], []), (103, .iconst 1, 1, [1], []), (104, .iconst 3, 1, [3], []), (105, .invokevirtual 70, 3, [4, 57, 5, 1], []), (108, .istore 5, 2, [], []), (110, .iload 5, 2, [], []), (112, .ifCond .ge 7, 3, [119, 0], []), (115, .iload_n 2, 1, [], []), (116, .iconst 2, 1, [2], []), (117, .iadd, 1, [], []), (118, .ireturn, 1, [], []), (119, .aload_n 0, 1, [], []), (120, .getfield 55, 3, [9, 8], []), (123, .iload_n 3, 1, [], []), (124, .bipush 6, 2, [6], []), (126, .imul, 1, [], []), (127, .iload 4, 2, [], []), (129, .iadd, 1, [], []), (130, .iload 5, 2, [], []), (132, .iastore, 1, [], []), (133, .aload_n 0, 1, [], []), (134, .getfield 55, 3, [9, 8], []), (137, .iload 4, 2, [], []), (139, .bipush 6, 2, [6], []), (141, .imul, 1, [], []), (142, .iload_n 3, 1, [], []), (143, .iadd, 1, [], []), (144, .iload 5, 2, [], []), (146, .iastore, 1, [], []), (147, .iinc 2 3, 3, [], []), (150, .goto (-124), 3, [26, 1, 1, 1, 1, 0, 0, 0], []), (153, .iconst (-1), 1, [], []), (154, .ireturn, 1, [], [])]
def k_X9_entryOf : List mE := [(0, .iload_n 0, 1, [], []), (1, .ifCond .ne 6, 3, [7, 0], []), (4, .iload_n 1, 1, [], []), (5, .i2b, 1, [], []), (6, .ireturn, 1, [], []), (7, .iload_n 0, 1, [], []), (8, .iconst 1, 1, [1], []), (9, .if_icmp .ne 8, 3, [17, 0], []), (12, .iload_n 1, 1, [], []), (13, .i2s, 1, [], []), (14, .goto 4, 3, [18, 0], []), (17, .iload_n 1, 1, [], []), (18, .ireturn, 1, [], [])]
def k_X9_comesFromEntry : List mE := [(0, .iload_n 1, 1, [], []), (1, .iconst 1, 1, [1], []), (2, .iadd, 1, [], []), (3, .aload_n 0, 1, [], []), (4, .getfield 10, 3, [9, 0], []), (7, .getfield 112, 3, [0, 3], []), (10, .if_icmp .ge 9, 3, [19, 0], []), (13, .iload_n 1, 1, [], []), (14, .iconst 1, 1, [1], []), (15, .iadd, 1, [], []), (16, .goto 4, 3, [20, 0], []), (19, .iconst 0, 1, [0], []), (20, .istore 4, 2, [], []), (22, .iload_n 3, 1, [], []), (23, .ifCond .le 16, 3, [39, 0], []), (26, .aload_n 0, 1, [], []), (27, .getfield 10, 3, [9, 0], []), (30, .iload_n 1, 1, [], []), (31, .iload 4, 2, [], []), (33, .invokevirtual 248, 3, [3, 3, 3, 1], []), (36, .ifCond .ne 5, 3, [41, 0], []), (39, .iconst 0, 1, [0], []), (40, .ireturn, 1, [1], []), (41, .aload_n 0, 1, [], []), (42, .getfield 10, 3, [9, 0], []), (45, .iload_n 1, 1, [], []), (46, .iload_n 2, 1, [], []), (47, .iload 4, 2, [], []), (49, .iload_n 3, 1, [], []), (50, .bipush 9, 2, [9], []), (52, .irem, 1, [], []), (53, .iconst 1, 1, [1], []), (54, .iadd, 1, [], []), (55, .invokevirtual 127, 3, [5, 9, 6, 1], []), (58, .pop, 1, [], []), (59, .iconst 1, 1, [1], []), (60, .ireturn, 1, [1], [])]
def k_X9_waysAlone : List mE := [(0, .lconst 0, 1, [0], []), (1, .lstore_n 2, 1, [], []), (2, .iconst 0, 1, [0], []), (3, .istore 4, 2, [], []), (5, .iload 4, 2, [], [1, 1, 1, 0, 1]), (7, .iload_n 1, 1, [], []), (8, .if_icmp .gt 20, 3, [28, 0], []), (11, .lload_n 2, 1, [], []), (12, .iload 4, 2, [], []), (14, .iload_n 0, 1, [], []), (15, .iconst 1, 1, [1], []), (16, .isub, 1, [], []), (17, .invokestatic 322, 3, [2, 107, 5, 2], []), (20, .ladd, 1, [], []), (21, .lstore_n 2, 1, [], []), (22, .iinc 4 1, 3, [], []), (25, .goto (-20), 3, [5, 1, 1, 1, 1, 0, 1], []), (28, .iload_n 0, 1, [], []), (29, .i2l, 1, [], []), (30, .lload_n 2, 1, [], []), (31, .lmul, 1, [], []), (32, .lreturn, 1, [], [])]
def k_X9_power : List mE := [(0, .lconst 1, 1, [1], []), (1, .lstore_n 2, 1, [], []), (2, .iconst 0, 1, [0], []), (3, .istore 4, 2, [], []), (5, .iload 4, 2, [], [1, 1, 1, 0, 1]), (7, .iload_n 1, 1, [], []), (8, .if_icmp .ge 14, 3, [22, 0], []), (11, .lload_n 2, 1, [], []), (12, .iload_n 0, 1, [], []), (13, .i2l, 1, [], []), (14, .lmul, 1, [], []), (15, .lstore_n 2, 1, [], []), (16, .iinc 4 1, 3, [], []), (19, .goto (-14), 3, [5, 1, 1, 1, 1, 0, 1], []), (22, .lload_n 2, 1, [], []), (23, .lreturn, 1, [], [])]
def k_X9_slotsTillDelivered : List mE := [(0, .aload_n 0, 1, [], []), (1, .getfield 16, 3, [9, 1], []), (4, .aload_n 0, 1, [], []), (5, .getfield 10, 3, [9, 0], []), (8, .invokevirtual 327, 3, [2, 0, 3, 0], []), (11, .aload_n 0, 1, [], []), (12, .getfield 16, 3, [9, 1], []), (15, .iload_n 1, 1, [], []), (16, .iconst 0, 1, [0], []), (17, .iload_n 2, 1, [], []), (18, .iconst 1, 1, [1], []), (19, .invokevirtual 127, 3, [5, 9, 6, 1], []), (22, .pop, 1, [], []), (23, .aload_n 0, 1, [], []), (24, .getfield 16, 3, [9, 1], []), (27, .iload_n 1, 1, [], []), (28, .iconst 0, 1, [0], []), (29, .invokevirtual 364, 3, [3, 10, 4, 0], []), (32, .iconst 1, 1, [1], []), (33, .istore_n 3, 1, [], []), (34, .iload_n 3, 1, [], [1, 0, 0, 1]), (35, .bipush 99, 2, [99], []), (37, .if_icmp .gt 28, 3, [65, 0], []), (40, .aload_n 0, 1, [], []), (41, .getfield 16, 3, [9, 1], []), (44, .invokevirtual 133, 3, [1, 13, 3, 0], []), (47, .aload_n 0, 1, [], []), (48, .getfield 16, 3, [9, 1], []), (51, .getfield 368, 3, [0, 12], []), (54, .ifCond .eq 5, 3, [59, 0], []), (57, .iload_n 3, 1, [], []), (58, .ireturn, 1, [], []), (59, .iinc 3 1, 3, [], []), (62, .goto (-28), 3, [34, 1, 1, 0, 0, 1], []), (65, .bipush 100, 2, [100], []), (67, .ireturn, 1, [], [])]
def k_X9_actLength : List mE := [(0, .aload_n 0, 1, [], []), (1, .getfield 44, 3, [9, 6], []), (4, .iload_n 1, 1, [], []), (5, .invokevirtual 371, 3, [2, 56, 2, 1], []), (8, .istore_n 2, 1, [], []), (9, .iload_n 2, 1, [], []), (10, .bipush 102, 2, [102], []), (12, .if_icmp .ne 5, 3, [17, 0], []), (15, .iconst 5, 1, [5], []), (16, .ireturn, 1, [], []), (17, .iload_n 2, 1, [], []), (18, .bipush 115, 2, [115], []), (20, .if_icmp .ne 7, 3, [27, 0], []), (23, .iconst 3, 1, [3], []), (24, .goto 4, 3, [28, 0], []), (27, .iconst 1, 1, [1], []), (28, .ireturn, 1, [], [])]
def k_X9_faultInDay : List mE := [(0, .iconst 0, 1, [0], []), (1, .istore_n 1, 1, [], []), (2, .iconst 0, 1, [0], []), (3, .istore_n 2, 1, [], []), (4, .iload_n 2, 1, [], [1, 1, 1, 0]), (5, .bipush 80, 2, [80], []), (7, .if_icmp .ge 40, 3, [47, 0], []), (10, .iload_n 1, 1, [], []), (11, .aload_n 0, 1, [], []), (12, .getfield 44, 3, [9, 6], []), (15, .getfield 63, 3, [7, 1], []), (18, .if_icmp .ge 29, 3, [47, 0], []), (21, .aload_n 0, 1, [], []), (22, .iload_n 1, 1, [], []), (23, .invokevirtual 374, 3, [2, 111, 3, 1], []), (26, .istore_n 3, 1, [], []), (27, .iload_n 3, 1, [], []), (28, .ifCond .lt 5, 3, [33, 0], []), (31, .iload_n 3, 1, [], []), (32, .ireturn, 1, [], []), (33, .iload_n 1, 1, [], []), (34, .aload_n 0, 1, [], []), (35, .iload_n 1, 1, [], []), (36, .invokevirtual 343, 3, [2, 109, 3, 1], []), (39, .iadd, 1, [], []), (40, .istore_n 1, 1, [], []), (41, .iinc 2 1, 3, [], []), (44, .goto (-40), 3, [4, 1, 1, 1, 1, 0], []), (47, .iconst (-1), 1, [], []), (48, .ireturn, 1, [], [])]
def k_X9_faultInAct : List mE := [(0, .aload_n 0, 1, [], []), (1, .getfield 44, 3, [9, 6], []), (4, .iload_n 1, 1, [], []), (5, .invokevirtual 371, 3, [2, 56, 2, 1], []), (8, .istore_n 2, 1, [], []), (9, .iload_n 2, 1, [], []), (10, .bipush 100, 2, [100], []), (12, .if_icmp .ne 5, 3, [17, 0], []), (15, .iconst (-1), 1, [], []), (16, .ireturn, 1, [], []), (17, .iload_n 2, 1, [], []), (18, .bipush 115, 2, [115], []), (20, .if_icmp .ne 47, 3, [67, 0], []), (23, .aload_n 0, 1, [], []), (24, .getfield 44, 3, [9, 6], []), (27, .iload_n 1, 1, [], []), (28, .iconst 1, 1, [1], []), (29, .iadd, 1, [], []), (30, .iconst 0, 1, [0], []), (31, .bipush 9, 2, [9], []), (33, .invokevirtual 70, 3, [4, 57, 5, 1], []), (36, .ifCond .ge 7, 3, [43, 0], []), (39, .iload_n 1, 1, [], []), (40, .iconst 1, 1, [1], []), (41, .iadd, 1, [], []), (42, .ireturn, 1, [], []), (43, .aload_n 0, 1, [], []), (44, .getfield 44, 3, [9, 6], []), (47, .iload_n 1, 1, [], []), (48, .iconst 2, 1, [2], []), (49, .iadd, 1, [], []), (50, .iconst 0, 1, [0], []), (51, .bipush 9, 2, [9], []), (53, .invokevirtual 70, 3, [4, 57, 5, 1], []), (56, .ifCond .ge 9, 3, [65, 0], []), (59, .iload_n 1, 1, [], []), (60, .iconst 2, 1, [2], []), (61, .iadd, 1, [], []), (62, .goto 4, 3, [66, 0], []), (65, .iconst (-1), 1, [], []), (66, .ireturn, 1, [], []), (67, .iload_n 2, 1, [], []), (68, .bipush 102, 2, [102], []), (70, .if_icmp .eq 5, 3, [75, 0], []), (73, .iload_n 1, 1, [], []), (74, .ireturn, 1, [], []), (75, .aload_n 0, 1, [], []), (76, .getfield 44, 3, [9, 6], []), (79, .iload_n 1, 1, [], []), (80, .iconst 1, 1, [1], []), (81, .iadd, 1, [], []), (82, .bipush 6, 2, [6], []), (84, .invokevirtual 361, 3, [3, 58, 4, 1], []), (87, .ifCond .ge 7, 3, [94, 0], []), (90, .iload_n 1, 1, [], []), (91, .iconst 1, 1, [1], []), (92, .iadd, 1, [], []), (93, .ireturn, 1, [], []), (94, .aload_n 0, 1, [], []), (95, .getfield 44, 3, [9, 6], []), (98, .iload_n 1, 1, [], []), (99, .iconst 2, 1, [2], []), (100, .iadd, 1, [], []), (101, .iconst 0, 1, [0], []), (102, .iconst 3, 1, [3], []), (103, .invokevirtual 70, 3, [4, 57, 5, 1], []), (106, .ifCond .ge 7, 3, [113, 0], []), (109, .iload_n 1, 1, [], []), (110, .iconst 2, 1, [2], []), (111, .iadd, 1, [], []), (112, .ireturn, 1, [], []), (113, .aload_n 0, 1, [], []), (114, .getfield 44, 3, [9, 6], []), (117, .iload_n 1, 1, [], []), (118, .iconst 3, 1, [3], []), (119, .iadd, 1, [], []), (120, .bipush 6, 2, [6], []), (122, .invokevirtual 361, 3, [3, 58, 4, 1], []), (125, .ifCond .ge 7, 3, [132, 0], []), (128, .iload_n 1, 1, [], []), (129, .iconst 3, 1, [3], []), (130, .iadd, 1, [], []), (131, .ireturn, 1, [], []), (132, .aload_n 0, 1, [], []), (133, .getfield 44, 3, [9, 6], []), (136, .iload_n 1, 1, [], []), (137, .iconst 4, 1, [4], []), (138, .iadd, 1, [], []), (139, .iconst 1, 1, [1], []), (140, .bipush 9, 2, [9], []), (142, .invokevirtual 70, 3, [4, 57, 5, 1], []), (145, .ifCond .ge 9, 3, [154, 0], []), (148, .iload_n 1, 1, [], []), (149, .iconst 4, 1, [4], []), (150, .iadd, 1, [], []), (151, .goto 4, 3, [155, 0], []), (154, .iconst (-1), 1, [], []), (155, .ireturn, 1, [], [])]
def k_X9_doAct : List mE := [(0, .aload_n 0, 1, [], []), (1, .getfield 44, 3, [9, 6], []), (4, .iload_n 1, 1, [], []), (5, .invokevirtual 371, 3, [2, 56, 2, 1], []), (8, .istore_n 2, 1, [], []), (9, .iload_n 2, 1, [], []), (10, .bipush 100, 2, [100], []), (12, .if_icmp .ne 13, 3, [25, 0], []), (15, .aload_n 0, 1, [], []), (16, .getfield 10, 3, [9, 0], []), (19, .invokevirtual 140, 3, [1, 11, 5, 1], []), (22, .pop, 1, [], []), (23, .iconst 1, 1, [1], []), (24, .ireturn, 1, [1], []), (25, .iload_n 2, 1, [], []), (26, .bipush 115, 2, [115], []), (28, .if_icmp .ne 71, 3, [99, 0], []), (31, .bipush 10, 2, [10], []), (33, .aload_n 0, 1, [], []), (34, .getfield 44, 3, [9, 6], []), (37, .iload_n 1, 1, [], []), (38, .iconst 1, 1, [1], []), (39, .iadd, 1, [], []), (40, .iconst 0, 1, [0], []), (41, .bipush 9, 2, [9], []), (43, .invokevirtual 70, 3, [4, 57, 5, 1], []), (46, .imul, 1, [], []), (47, .aload_n 0, 1, [], []), (48, .getfield 44, 3, [9, 6], []), (51, .iload_n 1, 1, [], []), (52, .iconst 2, 1, [2], []), (53, .iadd, 1, [], []), (54, .iconst 0, 1, [0], []), (55, .bipush 9, 2, [9], []), (57, .invokevirtual 70, 3, [4, 57, 5, 1], []), (60, .iadd, 1, [], []), (61, .istore_n 3, 1, [], []), (62, .iload_n 3, 1, [], []), (63, .iconst 1, 1, [1], []), (64, .if_icmp .lt 9, 3, [73, 0], []), (67, .iload_n 3, 1, [], []), (68, .bipush 60, 2, [60], []), (70, .if_icmp .le 5, 3, [75, 0], []), (73, .iconst 0, 1, [0], []), (74, .ireturn, 1, [1], []), (75, .iconst 0, 1, [0], []), (76, .istore 4, 2, [], []), (78, .iload 4, 2, [], [1, 0, 0, 1, 1, 0, 0]), (80, .iload_n 3, 1, [], []), (81, .if_icmp .ge 16, 3, [97, 0], []), (84, .aload_n 0, 1, [], []), (85, .getfield 10, 3, [9, 0], []), (88, .invokevirtual 133, 3, [1, 13, 3, 0], []), (91, .iinc 4 1, 3, [], []), (94, .goto (-16), 3, [78, 1, 1, 0, 0, 1, 1, 0, 0], []), (97, .iconst 1, 1, [1], []), (98, .ireturn, 1, [1], []), (99, .aload_n 0, 1, [], []), (100, .getfield 44, 3, [9, 6], []), (103, .iload_n 1, 1, [], []), (104, .iconst 1, 1, [1], []), (105, .iadd, 1, [], []), (106, .bipush 6, 2, [6], []), (108, .invokevirtual 361, 3, [3, 58, 4, 1], []), (111, .istore_n 3, 1, [], []), (112, .aload_n 0, 1, [], []), (113, .getfield 44, 3, [9, 6], []), (116, .iload_n 1, 1, [], []), (117, .iconst 2, 1, [2], []), (118, .iadd, 1, [], []), (119, .iconst 0, 1, [0], []), (120, .iconst 3, 1, [3], []), (121, .invokevirtual 70, 3, [4, 57, 5, 1], []), (124, .istore 4, 2, [], []), (126, .aload_n 0, 1, [], []), (127, .getfield 44, 3, [9, 6], []), (130, .iload_n 1, 1, [], []), (131, .iconst 3, 1, [3], []), (132, .iadd, 1, [], []), (133, .bipush 6, 2, [6], []), (135, .invokevirtual 361, 3, [3, 58, 4, 1], []), (138, .istore 5, 2, [], []), (140, .aload_n 0, 1, [], []), (141, .getfield 44, 3, [9, 6], []), (144, .iload_n 1, 1, [], []), (145, .iconst 4, 1, [4], []), (146, .iadd, 1, [], []), (147, .iconst 1, 1, [1], []), (148, .bipush 9, 2, [9], []), (150, .invokevirtual 70, 3, [4, 57, 5, 1], []), (153, .istore 6, 2, [], []), (155, .aload_n 0, 1, [], []), (156, .getfield 10, 3, [9, 0], []), (159, .iload_n 3, 1, [], []), (160, .iload 4, 2, [], []), (162, .iload 5, 2, [], []), (164, .iload 6, 2, [], []), (166, .invokevirtual 123, 3, [5, 8, 5, 1], []), (169, .ifCond .ge 5, 3, [174, 0], []), (172, .iconst 0, 1, [0], []), (173, .ireturn, 1, [1], []), (174, .aload_n 0, 1, [], []), (175, .getfield 10, 3, [9, 0], []), (178, .iload_n 3, 1, [], []), (179, .iload 4, 2, [], []), (181, .iload 5, 2, [], []), (183, .iload 6, 2, [], []), (185, .invokevirtual 127, 3, [5, 9, 6, 1], []), (188, .pop, 1, [], []), (189, .iconst 1, 1, [1], []), (190, .ireturn, 1, [1], [])]
def k_X9_offerDrawn : List mE := [(0, .aload_n 0, 1, [], []), (1, .getfield 22, 3, [9, 2], []), (4, .bipush 6, 2, [6], []), (6, .invokevirtual 351, 3, [2, 34, 2, 1], []), (9, .istore_n 1, 1, [], []), (10, .aload_n 0, 1, [], []), (11, .getfield 22, 3, [9, 2], []), (14, .iconst 4, 1, [4], []), (15, .invokevirtual 351, 3, [2, 34, 2, 1], []), (18, .istore_n 2, 1, [], []), (19, .aload_n 0, 1, [], []), (20, .getfield 22, 3, [9, 2], []), (23, .bipush 6, 2, [6], []), (25, .invokevirtual 351, 3, [2, 34, 2, 1], []), (28, .istore_n 3, 1, [], []), (29, .aload_n 0, 1, [], []), (30, .getfield 22, 3, [9, 2], []), (33, .bipush 9, 2, [9], []), (35, .invokevirtual 351, 3, [2, 34, 2, 1], []), (38, .iconst 1, 1, [1], []), (39, .iadd, 1, [], []), (40, .istore 4, 2, [], []), (42, .aload_n 0, 1, [], []), (43, .getfield 16, 3, [9, 1], []), (46, .iload_n 1, 1, [], []), (47, .iload_n 2, 1, [], []), (48, .iload_n 3, 1, [], []), (49, .iload 4, 2, [], []), (51, .invokevirtual 123, 3, [5, 8, 5, 1], []), (54, .ifCond .ne 16, 3, [70, 0], []), (57, .aload_n 0, 1, [], []), (58, .getfield 16, 3, [9, 1], []), (61, .iload_n 1, 1, [], []), (62, .iload_n 2, 1, [], []), (63, .iload_n 3, 1, [], []), (64, .iload 4, 2, [], []), (66, .invokevirtual 127, 3, [5, 9, 6, 1], []), (69, .pop, 1, [], []), (70, .return_, 1, [], [])]
def k_X10_thrown : List mE := [(0, .aload_n 0, 1, [], []), (1, .getfield 52, 3, [10, 5], []), (4, .ireturn, 1, [], [])]
def k_X10_in : List mE := [(0, .iload_n 0, 1, [], []), (1, .iload_n 1, 1, [], []), (2, .if_icmp .lt 12, 3, [14, 0], []), (5, .iload_n 0, 1, [], []), (6, .iload_n 2, 1, [], []), (7, .if_icmp .gt 7, 3, [14, 0], []), (10, .iconst 1, 1, [1], []), (11, .goto 4, 3, [15, 0], []), (14, .iconst 0, 1, [0], []), (15, .ireturn, 1, [1], [])]
def k_X10_has : List mE := [(0, .iload_n 0, 1, [], []), (1, .iload_n 1, 1, [], []), (2, .ishr, 1, [], []), (3, .iconst 1, 1, [1], []), (4, .iand, 1, [], []), (5, .iconst 1, 1, [1], []), (6, .if_icmp .ne 7, 3, [13, 0], []), (9, .iconst 1, 1, [1], []), (10, .goto 4, 3, [14, 0], []), (13, .iconst 0, 1, [0], []), (14, .ireturn, 1, [1], [])]
def k_X10_lost : List mE := [(0, .aload_n 0, 1, [], []), (1, .iconst 1, 1, [1], []), (2, .putfield 52, 3, [10, 5], []), (5, .iconst 0, 1, [0], []), (6, .ireturn, 1, [], [])]
def k_X10_tell : List mE := [(0, .aload_n 0, 1, [], []), (1, .getfield 17, 3, [10, 3], []), (4, .aload_n 0, 1, [], []), (5, .getfield 56, 3, [10, 4], []), (8, .lload_n 1, 1, [], []), (9, .lastore, 1, [], []), (10, .aload_n 0, 1, [], []), (11, .dup, 1, [], []), (12, .getfield 56, 3, [10, 4], []), (15, .iconst 1, 1, [1], []), (16, .iadd, 1, [], []), (17, .putfield 56, 3, [10, 4], []), (20, .return_, 1, [], [])]
def k_X10_common : List mE := [(0, .iload_n 0, 1, [], []), (1, .istore_n 2, 1, [], []), (2, .iload_n 1, 1, [], []), (3, .istore_n 3, 1, [], []), (4, .iload_n 3, 1, [], [0, 0, 1, 1, 0]), (5, .ifCond .eq 16, 3, [21, 0], []), (8, .iload_n 2, 1, [], []), (9, .iload_n 3, 1, [], []), (10, .irem, 1, [], []), (11, .istore 4, 2, [], []), (13, .iload_n 3, 1, [], []), (14, .istore_n 2, 1, [], []), (15, .iload 4, 2, [], []), (17, .istore_n 3, 1, [], []), (18, .goto (-14), 3, [4, 1, 0, 0, 1, 1, 0], []), (21, .iload_n 2, 1, [], []), (22, .ireturn, 1, [], [])]
def k_X10_commonLong : List mE := [(0, .lload_n 0, 1, [], []), (1, .lstore 4, 2, [], []), (3, .lload_n 2, 1, [], []), (4, .lstore 6, 2, [], []), (6, .lload 6, 2, [], [0, 0, 0, 0, 1, 0, 1, 0, 0, 0]), (8, .lconst 0, 1, [0], []), (9, .lcmp, 1, [], []), (10, .ifCond .eq 21, 3, [31, 0], []), (13, .lload 4, 2, [], []), (15, .lload 6, 2, [], []), (17, .lrem, 1, [], []), (18, .lstore 8, 2, [], []), (20, .lload 6, 2, [], []), (22, .lstore 4, 2, [], []), (24, .lload 8, 2, [], []), (26, .lstore 6, 2, [], []), (28, .goto (-22), 3, [6, 1, 0, 0, 0, 0, 1, 0, 1, 0, 0, 0], []), (31, .lload 4, 2, [], []), (33, .lreturn, 1, [], [])]
def k_X10_isStation : List mE := [(0, .iload_n 1, 1, [], []), (1, .iconst 0, 1, [0], []), (2, .aload_n 0, 1, [], []), (3, .getfield 9, 3, [10, 0], []), (6, .iconst 0, 1, [0], []), (7, .iaload, 1, [], []), (8, .iconst 1, 1, [1], []), (9, .isub, 1, [], []), (10, .invokestatic 59, 3, [3, 115, 3, 1], []), (13, .ireturn, 1, [1], [])]
def k_X10_isRank : List mE := [(0, .iload_n 0, 1, [], []), (1, .iconst 0, 1, [0], []), (2, .iconst 3, 1, [3], []), (3, .invokestatic 59, 3, [3, 115, 3, 1], []), (6, .ireturn, 1, [1], [])]
def k_X10_quality : List mE := [(0, .aload_n 0, 1, [], []), (1, .getfield 9, 3, [10, 0], []), (4, .bipush 15, 2, [15], []), (6, .bipush 6, 2, [6], []), (8, .iload_n 1, 1, [], []), (9, .imul, 1, [], []), (10, .iadd, 1, [], []), (11, .iload_n 2, 1, [], []), (12, .iadd, 1, [], []), (13, .iaload, 1, [], []), (14, .ireturn, 1, [], [])]
def k_X10_hears : List mE := [(0, .aload_n 0, 1, [], []), (1, .iload_n 1, 1, [], []), (2, .iload_n 2, 1, [], []), (3, .invokevirtual 63, 3, [3, 123, 3, 1], []), (6, .ifCond .le 7, 3, [13, 0], []), (9, .iconst 1, 1, [1], []), (10, .goto 4, 3, [14, 0], []), (13, .iconst 0, 1, [0], []), (14, .ireturn, 1, [1], [])]
def k_X10_at : List mE := [(0, .iconst 4, 1, [4], []), (1, .iload_n 0, 1, [], []), (2, .imul, 1, [], []), (3, .iload_n 1, 1, [], []), (4, .iadd, 1, [], []), (5, .ireturn, 1, [], [])]
def k_X10_frameAt : List mE := [(0, .sipush 171, 3, [171], []), (3, .iconst 5, 1, [5], []), (4, .bipush 8, 2, [8], []), (6, .iload_n 0, 1, [], []), (7, .iload_n 1, 1, [], []), (8, .invokestatic 67, 3, [2, 125, 2, 1], []), (11, .imul, 1, [], []), (12, .iload_n 2, 1, [], []), (13, .iadd, 1, [], []), (14, .imul, 1, [], []), (15, .iadd, 1, [], []), (16, .ireturn, 1, [], [])]
def k_X10_exchangeAt : List mE := [(0, .sipush 1179, 3, [1179], []), (3, .bipush 16, 2, [16], []), (5, .iload_n 0, 1, [], []), (6, .imul, 1, [], []), (7, .iadd, 1, [], []), (8, .ireturn, 1, [], [])]
def k_X10_draw : List mE := [(0, .aload_n 0, 1, [], []), (1, .getfield 9, 3, [10, 0], []), (4, .bipush 14, 2, [14], []), (6, .aload_n 0, 1, [], []), (7, .getfield 9, 3, [10, 0], []), (10, .bipush 14, 2, [14], []), (12, .iaload, 1, [], []), (13, .ldc 70, 2, [1103515245], []), (15, .imul, 1, [], []), (16, .sipush 12345, 3, [12345], []), (19, .iadd, 1, [], []), (20, .iastore, 1, [], []), (21, .aload_n 0, 1, [], []), (22, .getfield 9, 3, [10, 0], []), (25, .bipush 14, 2, [14], []), (27, .iaload, 1, [], []), (28, .bipush 16, 2, [16], []), (30, .iushr, 1, [], []), (31, .iload_n 1, 1, [], []), (32, .irem, 1, [], []), (33, .ireturn, 1, [], [])]
def k_X10_sign : List mE := [(0, .aload_n 0, 1, [], []), (1, .iconst 0, 1, [0], []), (2, .putfield 52, 3, [10, 5], []), (5, .aload_n 0, 1, [], []), (6, .getfield 71, 3, [10, 2], []), (9, .iconst 4, 1, [4], []), (10, .iadd, 1, [], []), (11, .bipush 80, 2, [80], []), (13, .if_icmp .le 5, 3, [18, 0], []), (16, .iconst (-1), 1, [], []), (17, .ireturn, 1, [], []), (18, .iconst 3, 1, [3], []), (19, .istore_n 2, 1, [], []), (20, .iload_n 2, 1, [], [1, 1, 1]), (21, .ifCond .lt 32, 3, [53, 0], []), (24, .aload_n 0, 1, [], []), (25, .getfield 13, 3, [10, 1], []), (28, .aload_n 0, 1, [], []), (29, .dup, 1, [], []), (30, .getfield 71, 3, [10, 2], []), (33, .dup_x1, 1, [], []), (34, .iconst 1, 1, [1], []), (35, .iadd, 1, [], []), (36, .putfield 71, 3, [10, 2], []), (39, .iload_n 1, 1, [], []), (40, .bipush 8, 2, [8], []), (42, .iload_n 2, 1, [], []), (43, .imul, 1, [], []), (44, .ishr, 1, [], []), (45, .i2b, 1, [], []), (46, .bastore, 1, [], []), (47, .iinc 2 (-1), 3, [], []), (50, .goto (-30), 3, [20, 1, 1, 1, 1], []), (53, .aload_n 0, 1, [], []), (54, .getfield 71, 3, [10, 2], []), (57, .ireturn, 1, [], [])]
def k_X10_end : List mE := [(0, .aload_n 0, 1, [], []), (1, .iconst 0, 1, [0], []), (2, .putfield 52, 3, [10, 5], []), (5, .iload_n 1, 1, [], []), (6, .iconst 0, 1, [0], []), (7, .aload_n 0, 1, [], []), (8, .getfield 71, 3, [10, 2], []), (11, .invokestatic 59, 3, [3, 115, 3, 1], []), (14, .ifCond .ne 5, 3, [19, 0], []), (17, .iconst 0, 1, [0], []), (18, .ireturn, 1, [1], []), (19, .aload_n 0, 1, [], []), (20, .iload_n 1, 1, [], []), (21, .putfield 71, 3, [10, 2], []), (24, .iconst 1, 1, [1], []), (25, .ireturn, 1, [1], [])]
def k_X10_begin : List mE := [(0, .aload_n 0, 1, [], []), (1, .aload_n 0, 1, [], []), (2, .getfield 71, 3, [10, 2], []), (5, .putfield 74, 3, [10, 6], []), (8, .aload_n 0, 1, [], []), (9, .iconst 0, 1, [0], []), (10, .putfield 77, 3, [10, 7], []), (13, .aload_n 0, 1, [], []), (14, .iconst (-1), 1, [], []), (15, .putfield 79, 3, [10, 8], []), (18, .aload_n 0, 1, [], []), (19, .iconst 0, 1, [0], []), (20, .putfield 71, 3, [10, 2], []), (23, .return_, 1, [], [])]
def k_X10_here : List mE := [(0, .aload_n 0, 1, [], []), (1, .getfield 77, 3, [10, 7], []), (4, .aload_n 0, 1, [], []), (5, .getfield 74, 3, [10, 6], []), (8, .if_icmp .ge 19, 3, [27, 0], []), (11, .aload_n 0, 1, [], []), (12, .getfield 13, 3, [10, 1], []), (15, .aload_n 0, 1, [], []), (16, .getfield 77, 3, [10, 7], []), (19, .baload, 1, [], []), (20, .sipush 255, 3, [255], []), (23, .iand, 1, [], []), (24, .goto 4, 3, [28, 0], []), (27, .iconst (-1), 1, [], []), (28, .ireturn, 1, [], [])]
def k_X10_fine : List mE := [(0, .aload_n 0, 1, [], []), (1, .getfield 79, 3, [10, 8], []), (4, .iconst (-1), 1, [], []), (5, .if_icmp .ne 7, 3, [12, 0], []), (8, .iconst 1, 1, [1], []), (9, .goto 4, 3, [13, 0], []), (12, .iconst 0, 1, [0], []), (13, .ireturn, 1, [1], [])]
def k_X10_fault : List mE := [(0, .aload_n 0, 1, [], []), (1, .invokevirtual 82, 3, [1, 133, 1, 1], []), (4, .ifCond .eq 8, 3, [12, 0], []), (7, .aload_n 0, 1, [], []), (8, .iload_n 1, 1, [], []), (9, .putfield 79, 3, [10, 8], []), (12, .return_, 1, [], [])]
def k_X10_oneOf : List mE := [(0, .aload_n 0, 1, [], []), (1, .invokevirtual 82, 3, [1, 133, 1, 1], []), (4, .ifCond .ne 5, 3, [9, 0], []), (7, .iconst 0, 1, [0], []), (8, .ireturn, 1, [], []), (9, .aload_n 0, 1, [], []), (10, .invokevirtual 86, 3, [1, 132, 1, 1], []), (13, .iload_n 1, 1, [], []), (14, .iload_n 1, 1, [], []), (15, .iload_n 2, 1, [], []), (16, .iadd, 1, [], []), (17, .iconst 1, 1, [1], []), (18, .isub, 1, [], []), (19, .invokestatic 59, 3, [3, 115, 3, 1], []), (22, .ifCond .ne 13, 3, [35, 0], []), (25, .aload_n 0, 1, [], []), (26, .aload_n 0, 1, [], []), (27, .getfield 77, 3, [10, 7], []), (30, .invokevirtual 90, 3, [2, 134, 2, 0], []), (33, .iconst 0, 1, [0], []), (34, .ireturn, 1, [], []), (35, .aload_n 0, 1, [], []), (36, .dup, 1, [], []), (37, .getfield 77, 3, [10, 7], []), (40, .iconst 1, 1, [1], []), (41, .iadd, 1, [], []), (42, .putfield 77, 3, [10, 7], []), (45, .aload_n 0, 1, [], []), (46, .getfield 13, 3, [10, 1], []), (49, .aload_n 0, 1, [], []), (50, .getfield 77, 3, [10, 7], []), (53, .iconst 1, 1, [1], []), (54, .isub, 1, [], []), (55, .baload, 1, [], []), (56, .iload_n 1, 1, [], []), (57, .isub, 1, [], []), (58, .ireturn, 1, [], [])]
def k_X10_twoDigits : List mE := [(0, .aload_n 0, 1, [], []), (1, .bipush 48, 2, [48], []), (3, .bipush 10, 2, [10], []), (5, .invokevirtual 94, 3, [3, 135, 3, 1], []), (8, .istore_n 1, 1, [], []), (9, .bipush 10, 2, [10], []), (11, .iload_n 1, 1, [], []), (12, .imul, 1, [], []), (13, .aload_n 0, 1, [], []), (14, .bipush 48, 2, [48], []), (16, .bipush 10, 2, [10], []), (18, .invokevirtual 94, 3, [3, 135, 3, 1], []), (21, .iadd, 1, [], []), (22, .ireturn, 1, [], [])]
def k_X10_wasRight : List mE := [(0, .aload_n 0, 1, [], []), (1, .getfield 77, 3, [10, 7], []), (4, .aload_n 0, 1, [], []), (5, .getfield 74, 3, [10, 6], []), (8, .if_icmp .ge 11, 3, [19, 0], []), (11, .aload_n 0, 1, [], []), (12, .aload_n 0, 1, [], []), (13, .getfield 77, 3, [10, 7], []), (16, .invokevirtual 90, 3, [2, 134, 2, 0], []), (19, .aload_n 0, 1, [], []), (20, .invokevirtual 82, 3, [1, 133, 1, 1], []), (23, .ireturn, 1, [1], [])]
def k_X10_readPair : List mE := [(0, .aload_n 0, 1, [], []), (1, .bipush 97, 2, [97], []), (3, .iload_n 1, 1, [], []), (4, .invokevirtual 94, 3, [3, 135, 3, 1], []), (7, .istore_n 2, 1, [], []), (8, .aload_n 0, 1, [], []), (9, .bipush 97, 2, [97], []), (11, .iload_n 1, 1, [], []), (12, .invokevirtual 94, 3, [3, 135, 3, 1], []), (15, .istore_n 3, 1, [], []), (16, .aload_n 0, 1, [], []), (17, .invokevirtual 82, 3, [1, 133, 1, 1], []), (20, .ifCond .eq 32, 3, [52, 0], []), (23, .iload_n 2, 1, [], []), (24, .iload_n 3, 1, [], []), (25, .if_icmp .eq 17, 3, [42, 0], []), (28, .aload_n 0, 1, [], []), (29, .getfield 21, 3, [10, 9], []), (32, .bipush 6, 2, [6], []), (34, .iload_n 2, 1, [], []), (35, .imul, 1, [], []), (36, .iload_n 3, 1, [], []), (37, .iadd, 1, [], []), (38, .iaload, 1, [], []), (39, .ifCond .le 13, 3, [52, 0], []), (42, .aload_n 0, 1, [], []), (43, .aload_n 0, 1, [], []), (44, .getfield 77, 3, [10, 7], []), (47, .iconst 1, 1, [1], []), (48, .isub, 1, [], []), (49, .invokevirtual 90, 3, [2, 134, 2, 0], []), (52, .aload_n 0, 1, [], []), (53, .bipush 49, 2, [49], []), (55, .iconst 3, 1, [3], []), (56, .invokevirtual 94, 3, [3, 135, 3, 1], []), (59, .iconst 1, 1, [1], []), (60, .iadd, 1, [], []), (61, .istore 4, 2, [], []), (63, .aload_n 0, 1, [], []), (64, .getfield 21, 3, [10, 9], []), (67, .bipush 6, 2, [6], []), (69, .iload_n 2, 1, [], []), (70, .imul, 1, [], []), (71, .iload_n 3, 1, [], []), (72, .iadd, 1, [], []), (73, .iload 4, 2, [], []), (75, .iastore, 1, [], []), (76, .aload_n 0, 1, [], []), (77, .getfield 21, 3, [10, 9], []), (80, .bipush 6, 2, [6], []), (82, .iload_n 3, 1, [], []), (83, .imul, 1, [], []), (84, .iload_n 2, 1, [], []), (85, .iadd, 1, [], []), (86, .iload 4, 2, [], []), (88, .iastore, 1, [], []), (89, .iconst 1, 1, [1], []), (90, .ireturn, 1, [], [])]
def k_X10_net : List mE := [(0, .aload_n 0, 1, [], []), (1, .iconst 0, 1, [0], []), (2, .putfield 52, 3, [10, 5], []), (5, .aload_n 0, 1, [], []), (6, .invokevirtual 98, 3, [1, 131, 1, 0], []), (9, .iconst 0, 1, [0], []), (10, .istore_n 1, 1, [], []), (11, .iload_n 1, 1, [], [1, 1, 0, 0, 0]), (12, .aload_n 0, 1, [], []), (13, .getfield 21, 3, [10, 9], []), (16, .arraylength, 1, [], []), (17, .if_icmp .ge 16, 3, [33, 0], []), (20, .aload_n 0, 1, [], []), (21, .getfield 21, 3, [10, 9], []), (24, .iload_n 1, 1, [], []), (25, .iconst 0, 1, [0], []), (26, .iastore, 1, [], []), (27, .iinc 1 1, 3, [], []), (30, .goto (-19), 3, [11, 1, 1, 1, 0, 0, 0], []), (33, .aload_n 0, 1, [], []), (34, .bipush 49, 2, [49], []), (36, .bipush 6, 2, [6], []), (38, .invokevirtual 94, 3, [3, 135, 3, 1], []), (41, .iconst 1, 1, [1], []), (42, .iadd, 1, [], []), (43, .istore_n 1, 1, [], []), (44, .iconst 0, 1, [0], []), (45, .istore_n 2, 1, [], []), (46, .aload_n 0, 1, [], [1, 1, 1, 0, 0]), (47, .invokevirtual 82, 3, [1, 133, 1, 1], []), (50, .ifCond .eq 25, 3, [75, 0], []), (53, .aload_n 0, 1, [], []), (54, .getfield 77, 3, [10, 7], []), (57, .aload_n 0, 1, [], []), (58, .getfield 74, 3, [10, 6], []), (61, .if_icmp .ge 14, 3, [75, 0], []), (64, .iload_n 2, 1, [], []), (65, .aload_n 0, 1, [], []), (66, .iload_n 1, 1, [], []), (67, .invokevirtual 101, 3, [2, 138, 5, 1], []), (70, .iadd, 1, [], []), (71, .istore_n 2, 1, [], []), (72, .goto (-26), 3, [46, 1, 1, 1, 1, 0, 0], []), (75, .aload_n 0, 1, [], []), (76, .invokevirtual 105, 3, [1, 137, 1, 1], []), (79, .ifCond .ne 10, 3, [89, 0], []), (82, .iconst (-1), 1, [], []), (83, .aload_n 0, 1, [], []), (84, .getfield 79, 3, [10, 8], []), (87, .isub, 1, [], []), (88, .ireturn, 1, [], []), (89, .aload_n 0, 1, [], []), (90, .invokevirtual 108, 3, [1, 208, 2, 0], []), (93, .iconst 0, 1, [0], []), (94, .istore_n 3, 1, [], []), (95, .iload_n 3, 1, [], [1, 1, 1, 1, 0]), (96, .sipush 1432, 3, [1432], []), (99, .if_icmp .ge 26, 3, [125, 0], []), (102, .iload_n 3, 1, [], []), (103, .iconst 2, 1, [2], []), (104, .bipush 14, 2, [14], []), (106, .invokestatic 59, 3, [3, 115, 3, 1], []), (109, .ifCond .ne 10, 3, [119, 0], []), (112, .aload_n 0, 1, [], []), (113, .getfield 9, 3, [10, 0], []), (116, .iload_n 3, 1, [], []), (117, .iconst 0, 1, [0], []), (118, .iastore, 1, [], []), (119, .iinc 3 1, 3, [], []), (122, .goto (-27), 3, [95, 1, 1, 1, 1, 1, 0], []), (125, .aload_n 0, 1, [], []), (126, .getfield 9, 3, [10, 0], []), (129, .iconst 0, 1, [0], []), (130, .iload_n 1, 1, [], []), (131, .iastore, 1, [], []), (132, .iconst 0, 1, [0], []), (133, .istore_n 3, 1, [], []), (134, .iload_n 3, 1, [], [1, 0, 1, 1, 0]), (135, .aload_n 0, 1, [], []), (136, .getfield 21, 3, [10, 9], []), (139, .arraylength, 1, [], []), (140, .if_icmp .ge 34, 3, [174, 0], []), (143, .aload_n 0, 1, [], []), (144, .getfield 9, 3, [10, 0], []), (147, .bipush 15, 2, [15], []), (149, .iload_n 3, 1, [], []), (150, .iadd, 1, [], []), (151, .aload_n 0, 1, [], []), (152, .getfield 21, 3, [10, 9], []), (155, .iload_n 3, 1, [], []), (156, .iaload, 1, [], []), (157, .iastore, 1, [], []), (158, .aload_n 0, 1, [], []), (159, .getfield 9, 3, [10, 0], []), (162, .bipush 51, 2, [51], []), (164, .iload_n 3, 1, [], []), (165, .iadd, 1, [], []), (166, .iconst 1, 1, [1], []), (167, .iastore, 1, [], []), (168, .iinc 3 1, 3, [], []), (171, .goto (-37), 3, [134, 1, 1, 0, 1, 1, 0], []), (174, .iconst 0, 1, [0], []), (175, .istore_n 3, 1, [], []), (176, .iload_n 3, 1, [], [1, 0, 1, 1, 0]), (177, .bipush 6, 2, [6], []), (179, .if_icmp .ge 60, 3, [239, 0], []), (182, .aload_n 0, 1, [], []), (183, .getfield 9, 3, [10, 0], []), (186, .sipush 135, 3, [135], []), (189, .iload_n 3, 1, [], []), (190, .iadd, 1, [], []), (191, .iconst (-1), 1, [], []), (192, .iastore, 1, [], []), (193, .iconst 0, 1, [0], []), (194, .istore 4, 2, [], []), (196, .iload 4, 2, [], [1, 0, 1, 1, 1]), (198, .iconst 4, 1, [4], []), (199, .if_icmp .ge 34, 3, [233, 0], []), (202, .aload_n 0, 1, [], []), (203, .getfield 9, 3, [10, 0], []), (206, .sipush 1131, 3, [1131], []), (209, .iload_n 3, 1, [], []), (210, .iload 4, 2, [], []), (212, .invokestatic 67, 3, [2, 125, 2, 1], []), (215, .iadd, 1, [], []), (216, .aload_n 0, 1, [], []), (217, .getfield 9, 3, [10, 0], []), (220, .bipush 9, 2, [9], []), (222, .iload 4, 2, [], []), (224, .iadd, 1, [], []), (225, .iaload, 1, [], []), (226, .iastore, 1, [], []), (227, .iinc 4 1, 3, [], []), (230, .goto (-34), 3, [196, 1, 1, 0, 1, 1, 1], []), (233, .iinc 3 1, 3, [], []), (236, .goto (-60), 3, [176, 1, 1, 0, 1, 1, 0], []), (239, .iload_n 2, 1, [], []), (240, .ireturn, 1, [], [])]
def k_X10_highOf : List mE := [(0, .iload_n 0, 1, [], []), (1, .ifCond .ne 6, 3, [7, 0], []), (4, .bipush 10, 2, [10], []), (6, .ireturn, 1, [], []), (7, .iload_n 0, 1, [], []), (8, .iconst 1, 1, [1], []), (9, .if_icmp .ne 5, 3, [14, 0], []), (12, .iconst 4, 1, [4], []), (13, .ireturn, 1, [], []), (14, .iload_n 0, 1, [], []), (15, .iconst 2, 1, [2], []), (16, .if_icmp .ne 6, 3, [22, 0], []), (19, .bipush 7, 2, [7], []), (21, .ireturn, 1, [], []), (22, .iload_n 0, 1, [], []), (23, .bipush 7, 2, [7], []), (25, .if_icmp .ge 8, 3, [33, 0], []), (28, .bipush 9, 2, [9], []), (30, .goto 16, 3, [46, 0], []), (33, .iload_n 0, 1, [], []), (34, .bipush 11, 2, [11], []), (36, .if_icmp .ge 8, 3, [44, 0], []), (39, .bipush 31, 2, [31], []), (41, .goto 5, 3, [46, 0], []), (44, .bipush 63, 2, [63], []), (46, .ireturn, 1, [], [])]
def k_X10_sets : List mE := [(0, .aload_n 0, 1, [], []), (1, .iconst 0, 1, [0], []), (2, .putfield 52, 3, [10, 5], []), (5, .iload_n 1, 1, [], []), (6, .iconst 0, 1, [0], []), (7, .bipush 12, 2, [12], []), (9, .invokestatic 59, 3, [3, 115, 3, 1], []), (12, .ifCond .eq 21, 3, [33, 0], []), (15, .iload_n 1, 1, [], []), (16, .bipush 12, 2, [12], []), (18, .if_icmp .eq 17, 3, [35, 0], []), (21, .iload_n 2, 1, [], []), (22, .iconst 1, 1, [1], []), (23, .iload_n 1, 1, [], []), (24, .invokestatic 111, 3, [1, 140, 1, 1], []), (27, .invokestatic 59, 3, [3, 115, 3, 1], []), (30, .ifCond .ne 5, 3, [35, 0], []), (33, .iconst (-1), 1, [], []), (34, .ireturn, 1, [], []), (35, .aload_n 0, 1, [], []), (36, .getfield 9, 3, [10, 0], []), (39, .iconst 2, 1, [2], []), (40, .iload_n 1, 1, [], []), (41, .iadd, 1, [], []), (42, .iaload, 1, [], []), (43, .istore_n 3, 1, [], []), (44, .iload_n 1, 1, [], []), (45, .bipush 12, 2, [12], []), (47, .if_icmp .eq 11, 3, [58, 0], []), (50, .iload_n 3, 1, [], []), (51, .iload_n 2, 1, [], []), (52, .if_icmp .ne 6, 3, [58, 0], []), (55, .bipush (-2), 2, [], []), (57, .ireturn, 1, [], []), (58, .aload_n 0, 1, [], []), (59, .invokevirtual 108, 3, [1, 208, 2, 0], []), (62, .aload_n 0, 1, [], []), (63, .getfield 9, 3, [10, 0], []), (66, .iconst 2, 1, [2], []), (67, .iload_n 1, 1, [], []), (68, .iadd, 1, [], []), (69, .iload_n 2, 1, [], []), (70, .iastore, 1, [], []), (71, .iload_n 1, 1, [], []), (72, .bipush 12, 2, [12], []), (74, .if_icmp .ne 8, 3, [82, 0], []), (77, .bipush 100, 2, [100], []), (79, .goto 7, 3, [86, 0], []), (82, .bipush 100, 2, [100], []), (84, .iload_n 3, 1, [], []), (85, .iadd, 1, [], []), (86, .ireturn, 1, [], [])]
def k_X10_setting : List mE := [(0, .aload_n 0, 1, [], []), (1, .iconst 0, 1, [0], []), (2, .putfield 52, 3, [10, 5], []), (5, .iload_n 1, 1, [], []), (6, .iconst 0, 1, [0], []), (7, .bipush 12, 2, [12], []), (9, .invokestatic 59, 3, [3, 115, 3, 1], []), (12, .ifCond .eq 14, 3, [26, 0], []), (15, .aload_n 0, 1, [], []), (16, .getfield 9, 3, [10, 0], []), (19, .iconst 2, 1, [2], []), (20, .iload_n 1, 1, [], []), (21, .iadd, 1, [], []), (22, .iaload, 1, [], []), (23, .goto 7, 3, [30, 0], []), (26, .aload_n 0, 1, [], []), (27, .invokevirtual 114, 3, [1, 117, 1, 1], []), (30, .ireturn, 1, [], [])]
def k_X10_goesOn : List mE := [(0, .iconst 0, 1, [0], []), (1, .istore_n 1, 1, [], []), (2, .iload_n 1, 1, [], [1, 1]), (3, .aload_n 0, 1, [], []), (4, .getfield 9, 3, [10, 0], []), (7, .iconst 0, 1, [0], []), (8, .iaload, 1, [], []), (9, .if_icmp .ge 26, 3, [35, 0], []), (12, .aload_n 0, 1, [], []), (13, .getfield 9, 3, [10, 0], []), (16, .iload_n 1, 1, [], []), (17, .invokestatic 117, 3, [1, 127, 1, 1], []), (20, .iconst 0, 1, [0], []), (21, .iadd, 1, [], []), (22, .iaload, 1, [], []), (23, .iconst 1, 1, [1], []), (24, .if_icmp .ne 5, 3, [29, 0], []), (27, .iconst 1, 1, [1], []), (28, .ireturn, 1, [1], []), (29, .iinc 1 1, 3, [], []), (32, .goto (-30), 3, [2, 1, 1, 1], []), (35, .iconst 0, 1, [0], []), (36, .ireturn, 1, [1], [])]
def k_X10_sheet : List mE := [(0, .aload_n 0, 1, [], []), (1, .iconst 0, 1, [0], []), (2, .putfield 52, 3, [10, 5], []), (5, .iload_n 1, 1, [], []), (6, .invokestatic 120, 3, [1, 122, 1, 1], []), (9, .ifCond .eq 18, 3, [27, 0], []), (12, .iload_n 2, 1, [], []), (13, .iconst 0, 1, [0], []), (14, .iconst 3, 1, [3], []), (15, .invokestatic 59, 3, [3, 115, 3, 1], []), (18, .ifCond .eq 9, 3, [27, 0], []), (21, .iload_n 3, 1, [], []), (22, .bipush 6, 2, [6], []), (24, .if_icmp .le 5, 3, [29, 0], []), (27, .iconst (-1), 1, [], []), (28, .ireturn, 1, [], []), (29, .aload_n 0, 1, [], []), (30, .invokevirtual 124, 3, [1, 143, 2, 1], []), (33, .ifCond .eq 6, 3, [39, 0], []), (36, .bipush (-4), 2, [], []), (38, .ireturn, 1, [], []), (39, .iload_n 2, 1, [], []), (40, .iconst 3, 1, [3], []), (41, .if_icmp .ge 10, 3, [51, 0], []), (44, .iload_n 3, 1, [], []), (45, .ifCond .ge 6, 3, [51, 0], []), (48, .bipush (-2), 2, [], []), (50, .ireturn, 1, [], []), (51, .iconst 0, 1, [0], []), (52, .istore 6, 2, [], []), (54, .iload 4, 2, [], []), (56, .istore 7, 2, [], []), (58, .iconst 0, 1, [0], []), (59, .istore 8, 2, [], []), (61, .iload 8, 2, [], [1, 1, 1, 1, 0, 1, 1, 1, 1, 0, 0]), (63, .aload_n 0, 1, [], []), (64, .getfield 9, 3, [10, 0], []), (67, .iconst 0, 1, [0], []), (68, .iaload, 1, [], []), (69, .if_icmp .ge 117, 3, [186, 0], []), (72, .iload_n 2, 1, [], []), (73, .ifCond .ne 9, 3, [82, 0], []), (76, .iload 7, 2, [], []), (78, .i2b, 1, [], []), (79, .goto 16, 3, [95, 0], []), (82, .iload_n 2, 1, [], []), (83, .iconst 1, 1, [1], []), (84, .if_icmp .ne 9, 3, [93, 0], []), (87, .iload 7, 2, [], []), (89, .i2s, 1, [], []), (90, .goto 5, 3, [95, 0], []), (93, .iload 7, 2, [], []), (95, .istore 9, 2, [], [1, 1, 1, 1, 0, 1, 1, 1, 1, 0, 0]), (97, .aload_n 0, 1, [], []), (98, .getfield 9, 3, [10, 0], []), (101, .sipush 147, 3, [147], []), (104, .iload 8, 2, [], []), (106, .iload_n 1, 1, [], []), (107, .invokestatic 67, 3, [2, 125, 2, 1], []), (110, .iadd, 1, [], []), (111, .iconst 0, 1, [0], []), (112, .iastore, 1, [], []), (113, .iload 8, 2, [], []), (115, .iconst 1, 1, [1], []), (116, .iadd, 1, [], []), (117, .aload_n 0, 1, [], []), (118, .getfield 9, 3, [10, 0], []), (121, .iconst 0, 1, [0], []), (122, .iaload, 1, [], []), (123, .irem, 1, [], []), (124, .istore 10, 2, [], []), (126, .iload_n 2, 1, [], []), (127, .iconst 3, 1, [3], []), (128, .if_icmp .ge 45, 3, [173, 0], []), (131, .iload 8, 2, [], []), (133, .iload_n 3, 1, [], []), (134, .if_icmp .ge 39, 3, [173, 0], []), (137, .iload 9, 2, [], []), (139, .ifCond .le 34, 3, [173, 0], []), (142, .aload_n 0, 1, [], []), (143, .iload 8, 2, [], []), (145, .iload 10, 2, [], []), (147, .invokevirtual 127, 3, [3, 124, 3, 1], []), (150, .ifCond .eq 23, 3, [173, 0], []), (153, .aload_n 0, 1, [], []), (154, .iload 8, 2, [], []), (156, .iload_n 1, 1, [], []), (157, .iload 10, 2, [], []), (159, .iload 9, 2, [], []), (161, .bipush 9, 2, [9], []), (163, .irem, 1, [], []), (164, .iconst 1, 1, [1], []), (165, .iadd, 1, [], []), (166, .iconst 0, 1, [0], []), (167, .invokevirtual 131, 3, [6, 145, 7, 0], []), (170, .iinc 6 1, 3, [], []), (173, .iload 7, 2, [], []), (175, .iload 5, 2, [], []), (177, .iadd, 1, [], []), (178, .istore 7, 2, [], []), (180, .iinc 8 1, 3, [], []), (183, .goto (-122), 3, [61, 1, 1, 1, 1, 1, 0, 1, 1, 1, 1, 0, 0], []), (186, .iload_n 2, 1, [], []), (187, .iconst 3, 1, [3], []), (188, .if_icmp .ne 8, 3, [196, 0], []), (191, .bipush (-3), 2, [], []), (193, .goto 5, 3, [198, 0], []), (196, .iload 6, 2, [], []), (198, .ireturn, 1, [], [])]
def k_X10_put : List mE := [(0, .iload_n 1, 1, [], []), (1, .iload_n 2, 1, [], []), (2, .aload_n 0, 1, [], []), (3, .getfield 9, 3, [10, 0], []), (6, .sipush 147, 3, [147], []), (9, .iload_n 1, 1, [], []), (10, .iload_n 2, 1, [], []), (11, .invokestatic 67, 3, [2, 125, 2, 1], []), (14, .iadd, 1, [], []), (15, .iaload, 1, [], []), (16, .invokestatic 135, 3, [3, 126, 3, 1], []), (19, .istore 6, 2, [], []), (21, .aload_n 0, 1, [], []), (22, .getfield 9, 3, [10, 0], []), (25, .iload 6, 2, [], []), (27, .iload_n 3, 1, [], []), (28, .iastore, 1, [], []), (29, .aload_n 0, 1, [], []), (30, .getfield 9, 3, [10, 0], []), (33, .iload 6, 2, [], []), (35, .iconst 1, 1, [1], []), (36, .iadd, 1, [], []), (37, .iload 4, 2, [], []), (39, .iastore, 1, [], []), (40, .aload_n 0, 1, [], []), (41, .getfield 9, 3, [10, 0], []), (44, .iload 6, 2, [], []), (46, .iconst 2, 1, [2], []), (47, .iadd, 1, [], []), (48, .iconst 0, 1, [0], []), (49, .iastore, 1, [], []), (50, .aload_n 0, 1, [], []), (51, .getfield 9, 3, [10, 0], []), (54, .iload 6, 2, [], []), (56, .iconst 3, 1, [3], []), (57, .iadd, 1, [], []), (58, .aload_n 0, 1, [], []), (59, .getfield 9, 3, [10, 0], []), (62, .iconst 1, 1, [1], []), (63, .iaload, 1, [], []), (64, .iastore, 1, [], []), (65, .aload_n 0, 1, [], []), (66, .getfield 9, 3, [10, 0], []), (69, .iload 6, 2, [], []), (71, .iconst 4, 1, [4], []), (72, .iadd, 1, [], []), (73, .iload 5, 2, [], []), (75, .iastore, 1, [], []), (76, .aload_n 0, 1, [], []), (77, .getfield 9, 3, [10, 0], []), (80, .sipush 147, 3, [147], []), (83, .iload_n 1, 1, [], []), (84, .iload_n 2, 1, [], []), (85, .invokestatic 67, 3, [2, 125, 2, 1], []), (88, .iadd, 1, [], []), (89, .dup2, 1, [], []), (90, .iaload, 1, [], []), (91, .iconst 1, 1, [1], []), (92, .iadd, 1, [], []), (93, .iastore, 1, [], []), (94, .return_, 1, [], [])]
def k_X10_leaves : List mE := [(0, .aload_n 0, 1, [], []), (1, .getfield 9, 3, [10, 0], []), (4, .sipush 147, 3, [147], []), (7, .iload_n 1, 1, [], []), (8, .iload_n 2, 1, [], []), (9, .invokestatic 67, 3, [2, 125, 2, 1], []), (12, .iadd, 1, [], []), (13, .dup2, 1, [], []), (14, .iaload, 1, [], []), (15, .iconst 1, 1, [1], []), (16, .isub, 1, [], []), (17, .iastore, 1, [], []), (18, .iload_n 3, 1, [], []), (19, .istore 4, 2, [], []), (21, .iload 4, 2, [], [1, 1, 1, 0, 1, 0]), (23, .aload_n 0, 1, [], []), (24, .getfield 9, 3, [10, 0], []), (27, .sipush 147, 3, [147], []), (30, .iload_n 1, 1, [], []), (31, .iload_n 2, 1, [], []), (32, .invokestatic 67, 3, [2, 125, 2, 1], []), (35, .iadd, 1, [], []), (36, .iaload, 1, [], []), (37, .if_icmp .ge 56, 3, [93, 0], []), (40, .iconst 0, 1, [0], []), (41, .istore 5, 2, [], []), (43, .iload 5, 2, [], [1, 1, 1, 0, 1, 1]), (45, .iconst 5, 1, [5], []), (46, .if_icmp .ge 41, 3, [87, 0], []), (49, .aload_n 0, 1, [], []), (50, .getfield 9, 3, [10, 0], []), (53, .iload_n 1, 1, [], []), (54, .iload_n 2, 1, [], []), (55, .iload 4, 2, [], []), (57, .invokestatic 135, 3, [3, 126, 3, 1], []), (60, .iload 5, 2, [], []), (62, .iadd, 1, [], []), (63, .aload_n 0, 1, [], []), (64, .getfield 9, 3, [10, 0], []), (67, .iload_n 1, 1, [], []), (68, .iload_n 2, 1, [], []), (69, .iload 4, 2, [], []), (71, .iconst 1, 1, [1], []), (72, .iadd, 1, [], []), (73, .invokestatic 135, 3, [3, 126, 3, 1], []), (76, .iload 5, 2, [], []), (78, .iadd, 1, [], []), (79, .iaload, 1, [], []), (80, .iastore, 1, [], []), (81, .iinc 5 1, 3, [], []), (84, .goto (-41), 3, [43, 1, 1, 1, 1, 0, 1, 1], []), (87, .iinc 4 1, 3, [], []), (90, .goto (-69), 3, [21, 1, 1, 1, 1, 0, 1, 0], []), (93, .return_, 1, [], [])]
def k_X10_refusesOffer : List mE := [(0, .aload_n 0, 1, [], []), (1, .iload_n 1, 1, [], []), (2, .invokevirtual 139, 3, [2, 121, 2, 1], []), (5, .ifCond .eq 34, 3, [39, 0], []), (8, .iload_n 2, 1, [], []), (9, .invokestatic 120, 3, [1, 122, 1, 1], []), (12, .ifCond .eq 27, 3, [39, 0], []), (15, .aload_n 0, 1, [], []), (16, .iload_n 3, 1, [], []), (17, .invokevirtual 139, 3, [2, 121, 2, 1], []), (20, .ifCond .eq 19, 3, [39, 0], []), (23, .iload_n 1, 1, [], []), (24, .iload_n 3, 1, [], []), (25, .if_icmp .eq 14, 3, [39, 0], []), (28, .iload 4, 2, [], []), (30, .iconst 1, 1, [1], []), (31, .bipush 9, 2, [9], []), (33, .invokestatic 59, 3, [3, 115, 3, 1], []), (36, .ifCond .ne 5, 3, [41, 0], []), (39, .iconst (-1), 1, [], []), (40, .ireturn, 1, [], []), (41, .aload_n 0, 1, [], []), (42, .iload_n 1, 1, [], []), (43, .iload_n 3, 1, [], []), (44, .invokevirtual 127, 3, [3, 124, 3, 1], []), (47, .ifCond .ne 8, 3, [55, 0], []), (50, .bipush (-3), 2, [], []), (52, .goto 28, 3, [80, 0], []), (55, .aload_n 0, 1, [], []), (56, .getfield 9, 3, [10, 0], []), (59, .sipush 147, 3, [147], []), (62, .iload_n 1, 1, [], []), (63, .iload_n 2, 1, [], []), (64, .invokestatic 67, 3, [2, 125, 2, 1], []), (67, .iadd, 1, [], []), (68, .iaload, 1, [], []), (69, .bipush 8, 2, [8], []), (71, .if_icmp .ne 8, 3, [79, 0], []), (74, .bipush (-2), 2, [], []), (76, .goto 4, 3, [80, 0], []), (79, .iconst 0, 1, [0], []), (80, .ireturn, 1, [], [])]
def k_X10_offers : List mE := [(0, .aload_n 0, 1, [], []), (1, .iconst 0, 1, [0], []), (2, .putfield 52, 3, [10, 5], []), (5, .aload_n 0, 1, [], []), (6, .iload_n 1, 1, [], []), (7, .iload_n 2, 1, [], []), (8, .iload_n 3, 1, [], []), (9, .iload 4, 2, [], []), (11, .invokevirtual 142, 3, [5, 147, 5, 1], []), (14, .istore 5, 2, [], []), (16, .iload 5, 2, [], []), (18, .ifCond .ge 6, 3, [24, 0], []), (21, .iload 5, 2, [], []), (23, .ireturn, 1, [], []), (24, .aload_n 0, 1, [], []), (25, .invokevirtual 108, 3, [1, 208, 2, 0], []), (28, .aload_n 0, 1, [], []), (29, .iload_n 1, 1, [], []), (30, .iload_n 2, 1, [], []), (31, .iload_n 3, 1, [], []), (32, .iload 4, 2, [], []), (34, .iconst 0, 1, [0], []), (35, .invokevirtual 131, 3, [6, 145, 7, 0], []), (38, .aload_n 0, 1, [], []), (39, .getfield 9, 3, [10, 0], []), (42, .sipush 147, 3, [147], []), (45, .iload_n 1, 1, [], []), (46, .iload_n 2, 1, [], []), (47, .invokestatic 67, 3, [2, 125, 2, 1], []), (50, .iadd, 1, [], []), (51, .iaload, 1, [], []), (52, .ireturn, 1, [], [])]
def k_X10_isFree : List mE := [(0, .aload_n 0, 1, [], []), (1, .getfield 9, 3, [10, 0], []), (4, .iload_n 1, 1, [], []), (5, .invokestatic 117, 3, [1, 127, 1, 1], []), (8, .iconst 0, 1, [0], []), (9, .iadd, 1, [], []), (10, .iaload, 1, [], []), (11, .ifCond .ne 31, 3, [42, 0], []), (14, .aload_n 0, 1, [], []), (15, .getfield 9, 3, [10, 0], []), (18, .sipush 135, 3, [135], []), (21, .iload_n 1, 1, [], []), (22, .iadd, 1, [], []), (23, .iaload, 1, [], []), (24, .iconst (-1), 1, [], []), (25, .if_icmp .ne 17, 3, [42, 0], []), (28, .aload_n 0, 1, [], []), (29, .getfield 24, 3, [10, 10], []), (32, .iload_n 1, 1, [], []), (33, .iaload, 1, [], []), (34, .iconst (-1), 1, [], []), (35, .if_icmp .ne 7, 3, [42, 0], []), (38, .iconst 1, 1, [1], []), (39, .goto 4, 3, [43, 0], []), (42, .iconst 0, 1, [0], []), (43, .ireturn, 1, [1], [])]
def k_X10_isReady : List mE := [(0, .aload_n 0, 1, [], []), (1, .getfield 9, 3, [10, 0], []), (4, .sipush 147, 3, [147], []), (7, .iload_n 1, 1, [], []), (8, .iload_n 2, 1, [], []), (9, .invokestatic 67, 3, [2, 125, 2, 1], []), (12, .iadd, 1, [], []), (13, .iaload, 1, [], []), (14, .ifCond .le 44, 3, [58, 0], []), (17, .aload_n 0, 1, [], []), (18, .getfield 9, 3, [10, 0], []), (21, .sipush 1155, 3, [1155], []), (24, .iload_n 1, 1, [], []), (25, .iload_n 2, 1, [], []), (26, .invokestatic 67, 3, [2, 125, 2, 1], []), (29, .iadd, 1, [], []), (30, .iaload, 1, [], []), (31, .ifCond .ne 27, 3, [58, 0], []), (34, .aload_n 0, 1, [], []), (35, .getfield 9, 3, [10, 0], []), (38, .iconst 5, 1, [5], []), (39, .iload_n 2, 1, [], []), (40, .iadd, 1, [], []), (41, .iaload, 1, [], []), (42, .aload_n 0, 1, [], []), (43, .getfield 9, 3, [10, 0], []), (46, .bipush 123, 2, [123], []), (48, .iload_n 1, 1, [], []), (49, .iadd, 1, [], []), (50, .iaload, 1, [], []), (51, .if_icmp .gt 7, 3, [58, 0], []), (54, .iconst 1, 1, [1], []), (55, .goto 4, 3, [59, 0], []), (58, .iconst 0, 1, [0], []), (59, .ireturn, 1, [1], [])]
def k_X10_had : List mE := [(0, .aload_n 0, 1, [], []), (1, .getfield 9, 3, [10, 0], []), (4, .sipush 1275, 3, [1275], []), (7, .bipush 9, 2, [9], []), (9, .iload_n 1, 1, [], []), (10, .imul, 1, [], []), (11, .iadd, 1, [], []), (12, .iload_n 2, 1, [], []), (13, .iadd, 1, [], []), (14, .dup2, 1, [], []), (15, .iaload, 1, [], []), (16, .iload_n 3, 1, [], []), (17, .iadd, 1, [], []), (18, .iastore, 1, [], []), (19, .return_, 1, [], [])]
def k_X10_drawsCount : List mE := [(0, .aload_n 0, 1, [], []), (1, .getfield 9, 3, [10, 0], []), (4, .sipush 1155, 3, [1155], []), (7, .iload_n 1, 1, [], []), (8, .iload_n 2, 1, [], []), (9, .invokestatic 67, 3, [2, 125, 2, 1], []), (12, .iadd, 1, [], []), (13, .aload_n 0, 1, [], []), (14, .aload_n 0, 1, [], []), (15, .getfield 9, 3, [10, 0], []), (18, .sipush 1131, 3, [1131], []), (21, .iload_n 1, 1, [], []), (22, .iload_n 2, 1, [], []), (23, .invokestatic 67, 3, [2, 125, 2, 1], []), (26, .iadd, 1, [], []), (27, .iaload, 1, [], []), (28, .iconst 1, 1, [1], []), (29, .iadd, 1, [], []), (30, .invokevirtual 146, 3, [2, 128, 2, 1], []), (33, .iastore, 1, [], []), (34, .return_, 1, [], [])]
def k_X10_isLost : List mE := [(0, .aload_n 0, 1, [], []), (1, .iload_n 1, 1, [], []), (2, .iload_n 2, 1, [], []), (3, .iload_n 3, 1, [], []), (4, .invokevirtual 149, 3, [4, 146, 6, 0], []), (7, .aload_n 0, 1, [], []), (8, .iload_n 1, 1, [], []), (9, .iconst 2, 1, [2], []), (10, .iconst 1, 1, [1], []), (11, .invokevirtual 153, 3, [4, 151, 4, 0], []), (14, .aload_n 0, 1, [], []), (15, .getfield 9, 3, [10, 0], []), (18, .sipush 1337, 3, [1337], []), (21, .dup2, 1, [], []), (22, .iaload, 1, [], []), (23, .iconst 1, 1, [1], []), (24, .iadd, 1, [], []), (25, .iastore, 1, [], []), (26, .return_, 1, [], [])]
def k_X10_fails : List mE := [(0, .iload_n 1, 1, [], []), (1, .iload_n 2, 1, [], []), (2, .iconst 0, 1, [0], []), (3, .invokestatic 135, 3, [3, 126, 3, 1], []), (6, .istore_n 3, 1, [], []), (7, .aload_n 0, 1, [], []), (8, .getfield 9, 3, [10, 0], []), (11, .iload_n 3, 1, [], []), (12, .iconst 2, 1, [2], []), (13, .iadd, 1, [], []), (14, .dup2, 1, [], []), (15, .iaload, 1, [], []), (16, .iconst 1, 1, [1], []), (17, .iadd, 1, [], []), (18, .iastore, 1, [], []), (19, .sipush 1131, 3, [1131], []), (22, .iload_n 1, 1, [], []), (23, .iload_n 2, 1, [], []), (24, .invokestatic 67, 3, [2, 125, 2, 1], []), (27, .iadd, 1, [], []), (28, .istore 4, 2, [], []), (30, .aload_n 0, 1, [], []), (31, .getfield 9, 3, [10, 0], []), (34, .iload_n 3, 1, [], []), (35, .iconst 2, 1, [2], []), (36, .iadd, 1, [], []), (37, .iaload, 1, [], []), (38, .aload_n 0, 1, [], []), (39, .getfield 9, 3, [10, 0], []), (42, .iconst 4, 1, [4], []), (43, .iaload, 1, [], []), (44, .if_icmp .lt 29, 3, [73, 0], []), (47, .aload_n 0, 1, [], []), (48, .iload_n 1, 1, [], []), (49, .iload_n 2, 1, [], []), (50, .iconst 0, 1, [0], []), (51, .invokevirtual 156, 3, [4, 153, 4, 0], []), (54, .aload_n 0, 1, [], []), (55, .getfield 9, 3, [10, 0], []), (58, .iload 4, 2, [], []), (60, .aload_n 0, 1, [], []), (61, .getfield 9, 3, [10, 0], []), (64, .bipush 9, 2, [9], []), (66, .iload_n 2, 1, [], []), (67, .iadd, 1, [], []), (68, .iaload, 1, [], []), (69, .iastore, 1, [], []), (70, .goto 31, 3, [101, 0], []), (73, .aload_n 0, 1, [], []), (74, .getfield 9, 3, [10, 0], []), (77, .iload 4, 2, [], []), (79, .iconst 2, 1, [2], []), (80, .aload_n 0, 1, [], []), (81, .getfield 9, 3, [10, 0], []), (84, .iload 4, 2, [], []), (86, .iaload, 1, [], []), (87, .imul, 1, [], []), (88, .iconst 1, 1, [1], []), (89, .iadd, 1, [], []), (90, .aload_n 0, 1, [], []), (91, .getfield 9, 3, [10, 0], []), (94, .bipush 13, 2, [13], []), (96, .iaload, 1, [], []), (97, .invokestatic 159, 3, [1001], []), (100, .iastore, 1, [], []), (101, .aload_n 0, 1, [], []), (102, .iload_n 1, 1, [], []), (103, .iload_n 2, 1, [], []), (104, .invokevirtual 164, 3, [3, 152, 3, 0], []), (107, .return_, 1, [], [])]
def k_X10_roundedUp : List mE := [(0, .iload_n 0, 1, [], []), (1, .iload_n 1, 1, [], []), (2, .iadd, 1, [], []), (3, .iconst 1, 1, [1], []), (4, .isub, 1, [], []), (5, .iload_n 1, 1, [], []), (6, .idiv, 1, [], []), (7, .ireturn, 1, [], [])]
def k_X10_begins : List mE := [(0, .iload_n 1, 1, [], []), (1, .invokestatic 117, 3, [1, 127, 1, 1], []), (4, .istore_n 3, 1, [], []), (5, .iconst 0, 1, [0], []), (6, .istore 4, 2, [], []), (8, .iload 4, 2, [], [1, 1, 1, 1, 1, 0, 0, 0]), (10, .bipush 16, 2, [16], []), (12, .if_icmp .ge 19, 3, [31, 0], []), (15, .aload_n 0, 1, [], []), (16, .getfield 9, 3, [10, 0], []), (19, .iload_n 3, 1, [], []), (20, .iload 4, 2, [], []), (22, .iadd, 1, [], []), (23, .iconst 0, 1, [0], []), (24, .iastore, 1, [], []), (25, .iinc 4 1, 3, [], []), (28, .goto (-20), 3, [8, 1, 1, 1, 1, 1, 1, 0, 0, 0], []), (31, .aload_n 0, 1, [], []), (32, .getfield 9, 3, [10, 0], []), (35, .iload_n 1, 1, [], []), (36, .iload_n 2, 1, [], []), (37, .iconst 0, 1, [0], []), (38, .invokestatic 135, 3, [3, 126, 3, 1], []), (41, .iaload, 1, [], []), (42, .istore 4, 2, [], []), (44, .iconst 0, 1, [0], []), (45, .istore 5, 2, [], []), (47, .iconst 0, 1, [0], []), (48, .istore 6, 2, [], []), (50, .iload 5, 2, [], [1, 1, 1, 1, 1, 1, 1, 0]), (52, .aload_n 0, 1, [], []), (53, .getfield 9, 3, [10, 0], []), (56, .sipush 147, 3, [147], []), (59, .iload_n 1, 1, [], []), (60, .iload_n 2, 1, [], []), (61, .invokestatic 67, 3, [2, 125, 2, 1], []), (64, .iadd, 1, [], []), (65, .iaload, 1, [], []), (66, .if_icmp .ge 98, 3, [164, 0], []), (69, .iload 5, 2, [], []), (71, .aload_n 0, 1, [], []), (72, .getfield 9, 3, [10, 0], []), (75, .iconst 3, 1, [3], []), (76, .iaload, 1, [], []), (77, .if_icmp .ge 87, 3, [164, 0], []), (80, .aload_n 0, 1, [], []), (81, .getfield 9, 3, [10, 0], []), (84, .iload_n 1, 1, [], []), (85, .iload_n 2, 1, [], []), (86, .iload 5, 2, [], []), (88, .invokestatic 135, 3, [3, 126, 3, 1], []), (91, .iaload, 1, [], []), (92, .iload 4, 2, [], []), (94, .if_icmp .ne 70, 3, [164, 0], []), (97, .aload_n 0, 1, [], []), (98, .getfield 9, 3, [10, 0], []), (101, .iload_n 3, 1, [], []), (102, .bipush 11, 2, [11], []), (104, .iadd, 1, [], []), (105, .iload 5, 2, [], []), (107, .iadd, 1, [], []), (108, .aload_n 0, 1, [], []), (109, .getfield 9, 3, [10, 0], []), (112, .iload_n 1, 1, [], []), (113, .iload_n 2, 1, [], []), (114, .iload 5, 2, [], []), (116, .invokestatic 135, 3, [3, 126, 3, 1], []), (119, .iconst 1, 1, [1], []), (120, .iadd, 1, [], []), (121, .iaload, 1, [], []), (122, .aload_n 0, 1, [], []), (123, .getfield 9, 3, [10, 0], []), (126, .bipush 51, 2, [51], []), (128, .bipush 6, 2, [6], []), (130, .iload_n 1, 1, [], []), (131, .imul, 1, [], []), (132, .iadd, 1, [], []), (133, .iload 4, 2, [], []), (135, .iadd, 1, [], []), (136, .iaload, 1, [], []), (137, .invokestatic 168, 3, [2, 155, 2, 1], []), (140, .iastore, 1, [], []), (141, .iload 6, 2, [], []), (143, .aload_n 0, 1, [], []), (144, .getfield 9, 3, [10, 0], []), (147, .iload_n 3, 1, [], []), (148, .bipush 11, 2, [11], []), (150, .iadd, 1, [], []), (151, .iload 5, 2, [], []), (153, .iadd, 1, [], []), (154, .iaload, 1, [], []), (155, .iadd, 1, [], []), (156, .istore 6, 2, [], []), (158, .iinc 5 1, 3, [], []), (161, .goto (-111), 3, [50, 1, 1, 1, 1, 1, 1, 1, 1, 0], []), (164, .iload 6, 2, [], []), (166, .aload_n 0, 1, [], []), (167, .getfield 9, 3, [10, 0], []), (170, .iconst 2, 1, [2], []), (171, .iaload, 1, [], []), (172, .if_icmp .lt 7, 3, [179, 0], []), (175, .iconst 1, 1, [1], []), (176, .goto 4, 3, [180, 0], []), (179, .iconst 0, 1, [0], []), (180, .istore 7, 2, [], [1, 1, 1, 1, 1, 1, 1, 0]), (182, .aload_n 0, 1, [], []), (183, .getfield 9, 3, [10, 0], []), (186, .iload_n 3, 1, [], []), (187, .iconst 0, 1, [0], []), (188, .iadd, 1, [], []), (189, .iconst 1, 1, [1], []), (190, .iastore, 1, [], []), (191, .aload_n 0, 1, [], []), (192, .getfield 9, 3, [10, 0], []), (195, .iload_n 3, 1, [], []), (196, .iconst 1, 1, [1], []), (197, .iadd, 1, [], []), (198, .iload 4, 2, [], []), (200, .iastore, 1, [], []), (201, .aload_n 0, 1, [], []), (202, .getfield 9, 3, [10, 0], []), (205, .iload_n 3, 1, [], []), (206, .iconst 2, 1, [2], []), (207, .iadd, 1, [], []), (208, .iload_n 2, 1, [], []), (209, .iastore, 1, [], []), (210, .aload_n 0, 1, [], []), (211, .getfield 9, 3, [10, 0], []), (214, .iload_n 3, 1, [], []), (215, .iconst 3, 1, [3], []), (216, .iadd, 1, [], []), (217, .iload 5, 2, [], []), (219, .iastore, 1, [], []), (220, .aload_n 0, 1, [], []), (221, .getfield 9, 3, [10, 0], []), (224, .iload_n 3, 1, [], []), (225, .iconst 4, 1, [4], []), (226, .iadd, 1, [], []), (227, .iload 7, 2, [], []), (229, .ifCond .eq 7, 3, [236, 0], []), (232, .iconst 0, 1, [0], []), (233, .goto 4, 3, [237, 0], []), (236, .iconst 2, 1, [2], []), (237, .iastore, 1, [], []), (238, .aload_n 0, 1, [], []), (239, .getfield 9, 3, [10, 0], []), (242, .iload_n 3, 1, [], []), (243, .iconst 5, 1, [5], []), (244, .iadd, 1, [], []), (245, .iload 6, 2, [], []), (247, .iastore, 1, [], []), (248, .aload_n 0, 1, [], []), (249, .getfield 9, 3, [10, 0], []), (252, .iload_n 3, 1, [], []), (253, .bipush 8, 2, [8], []), (255, .iadd, 1, [], []), (256, .aload_n 0, 1, [], []), (257, .getfield 9, 3, [10, 0], []), (260, .iload_n 3, 1, [], []), (261, .bipush 11, 2, [11], []), (263, .iadd, 1, [], []), (264, .iaload, 1, [], []), (265, .iastore, 1, [], []), (266, .aload_n 0, 1, [], []), (267, .getfield 9, 3, [10, 0], []), (270, .iload_n 3, 1, [], []), (271, .bipush 9, 2, [9], []), (273, .iadd, 1, [], []), (274, .iconst 1, 1, [1], []), (275, .iastore, 1, [], []), (276, .aload_n 0, 1, [], []), (277, .getfield 9, 3, [10, 0], []), (280, .iload_n 3, 1, [], []), (281, .bipush 10, 2, [10], []), (283, .iadd, 1, [], []), (284, .aload_n 0, 1, [], []), (285, .getfield 9, 3, [10, 0], []), (288, .iconst 1, 1, [1], []), (289, .iaload, 1, [], []), (290, .iload 7, 2, [], []), (292, .ifCond .eq 7, 3, [299, 0], []), (295, .iconst 2, 1, [2], []), (296, .goto 4, 3, [300, 0], []), (299, .iconst 0, 1, [0], []), (300, .iadd, 1, [], []), (301, .iload 6, 2, [], []), (303, .iadd, 1, [], []), (304, .iconst 1, 1, [1], []), (305, .iadd, 1, [], []), (306, .iastore, 1, [], []), (307, .aload_n 0, 1, [], []), (308, .iload_n 1, 1, [], []), (309, .iconst 3, 1, [3], []), (310, .iconst 1, 1, [1], []), (311, .invokevirtual 153, 3, [4, 151, 4, 0], []), (314, .aload_n 0, 1, [], []), (315, .getfield 9, 3, [10, 0], []), (318, .sipush 1341, 3, [1341], []), (321, .dup2, 1, [], []), (322, .iaload, 1, [], []), (323, .iconst 1, 1, [1], []), (324, .iload_n 1, 1, [], []), (325, .ishl, 1, [], []), (326, .ior, 1, [], []), (327, .iastore, 1, [], []), (328, .return_, 1, [], [])]
def k_X10_stepBegin : List mE := [(0, .aload_n 0, 1, [], []), (1, .getfield 9, 3, [10, 0], []), (4, .sipush 1341, 3, [1341], []), (7, .iconst 0, 1, [0], []), (8, .iastore, 1, [], []), (9, .aload_n 0, 1, [], []), (10, .getfield 9, 3, [10, 0], []), (13, .sipush 1331, 3, [1331], []), (16, .iconst 0, 1, [0], []), (17, .iastore, 1, [], []), (18, .iconst 0, 1, [0], []), (19, .istore_n 1, 1, [], []), (20, .iload_n 1, 1, [], [1, 1, 0, 0]), (21, .aload_n 0, 1, [], []), (22, .getfield 9, 3, [10, 0], []), (25, .iconst 0, 1, [0], []), (26, .iaload, 1, [], []), (27, .if_icmp .ge 56, 3, [83, 0], []), (30, .aload_n 0, 1, [], []), (31, .getfield 24, 3, [10, 10], []), (34, .iload_n 1, 1, [], []), (35, .iconst (-1), 1, [], []), (36, .iastore, 1, [], []), (37, .aload_n 0, 1, [], []), (38, .getfield 27, 3, [10, 11], []), (41, .iload_n 1, 1, [], []), (42, .iconst 0, 1, [0], []), (43, .iastore, 1, [], []), (44, .aload_n 0, 1, [], []), (45, .getfield 9, 3, [10, 0], []), (48, .iconst 1, 1, [1], []), (49, .iaload, 1, [], []), (50, .aload_n 0, 1, [], []), (51, .getfield 9, 3, [10, 0], []), (54, .sipush 129, 3, [129], []), (57, .iload_n 1, 1, [], []), (58, .iadd, 1, [], []), (59, .iaload, 1, [], []), (60, .if_icmp .ge 17, 3, [77, 0], []), (63, .aload_n 0, 1, [], []), (64, .getfield 9, 3, [10, 0], []), (67, .sipush 1331, 3, [1331], []), (70, .dup2, 1, [], []), (71, .iaload, 1, [], []), (72, .iconst 1, 1, [1], []), (73, .iload_n 1, 1, [], []), (74, .ishl, 1, [], []), (75, .ior, 1, [], []), (76, .iastore, 1, [], []), (77, .iinc 1 1, 3, [], []), (80, .goto (-60), 3, [20, 1, 1, 1, 0, 0], []), (83, .iconst 0, 1, [0], []), (84, .istore_n 1, 1, [], []), (85, .iload_n 1, 1, [], [1, 1, 0, 0]), (86, .aload_n 0, 1, [], []), (87, .getfield 9, 3, [10, 0], []), (90, .iconst 0, 1, [0], []), (91, .iaload, 1, [], []), (92, .if_icmp .ge 103, 3, [195, 0], []), (95, .aload_n 0, 1, [], []), (96, .iload_n 1, 1, [], []), (97, .invokevirtual 171, 3, [2, 149, 2, 1], []), (100, .ifCond .eq 89, 3, [189, 0], []), (103, .aload_n 0, 1, [], []), (104, .getfield 9, 3, [10, 0], []), (107, .sipush 1331, 3, [1331], []), (110, .iaload, 1, [], []), (111, .iload_n 1, 1, [], []), (112, .invokestatic 174, 3, [2, 116, 2, 1], []), (115, .ifCond .eq 6, 3, [121, 0], []), (118, .goto 71, 3, [189, 0], []), (121, .iconst 0, 1, [0], []), (122, .istore_n 2, 1, [], []), (123, .iconst 0, 1, [0], []), (124, .istore_n 3, 1, [], []), (125, .iload_n 3, 1, [], [1, 1, 1, 1]), (126, .iconst 4, 1, [4], []), (127, .if_icmp .ge 62, 3, [189, 0], []), (130, .aload_n 0, 1, [], []), (131, .iload_n 1, 1, [], []), (132, .iload_n 3, 1, [], []), (133, .invokevirtual 177, 3, [3, 150, 3, 1], []), (136, .ifCond .ne 6, 3, [142, 0], []), (139, .goto 44, 3, [183, 0], []), (142, .iload_n 2, 1, [], []), (143, .ifCond .ne 12, 3, [155, 0], []), (146, .aload_n 0, 1, [], []), (147, .iload_n 1, 1, [], []), (148, .iload_n 3, 1, [], []), (149, .invokevirtual 180, 3, [3, 156, 8, 0], []), (152, .goto 29, 3, [181, 0], []), (155, .aload_n 0, 1, [], []), (156, .iload_n 1, 1, [], []), (157, .iload_n 3, 1, [], []), (158, .invokevirtual 183, 3, [3, 154, 5, 0], []), (161, .aload_n 0, 1, [], []), (162, .iload_n 1, 1, [], []), (163, .bipush 6, 2, [6], []), (165, .iconst 1, 1, [1], []), (166, .invokevirtual 153, 3, [4, 151, 4, 0], []), (169, .aload_n 0, 1, [], []), (170, .getfield 9, 3, [10, 0], []), (173, .sipush 1339, 3, [1339], []), (176, .dup2, 1, [], []), (177, .iaload, 1, [], []), (178, .iconst 1, 1, [1], []), (179, .iadd, 1, [], []), (180, .iastore, 1, [], []), (181, .iconst 1, 1, [1], []), (182, .istore_n 2, 1, [], []), (183, .iinc 3 1, 3, [], []), (186, .goto (-61), 3, [125, 1, 1, 1, 1, 1], []), (189, .iinc 1 1, 3, [], []), (192, .goto (-107), 3, [85, 1, 1, 1, 0, 0], []), (195, .return_, 1, [], [])]
def k_X10_stepSend : List mE := [(0, .aload_n 0, 1, [], []), (1, .iconst 0, 1, [0], []), (2, .putfield 186, 3, [10, 12], []), (5, .iconst 0, 1, [0], []), (6, .istore_n 1, 1, [], []), (7, .iconst 0, 1, [0], []), (8, .istore_n 2, 1, [], []), (9, .iload_n 2, 1, [], [1, 1, 1, 0, 0]), (10, .aload_n 0, 1, [], []), (11, .getfield 9, 3, [10, 0], []), (14, .iconst 0, 1, [0], []), (15, .iaload, 1, [], []), (16, .if_icmp .ge 100, 3, [116, 0], []), (19, .iload_n 2, 1, [], []), (20, .invokestatic 117, 3, [1, 127, 1, 1], []), (23, .istore_n 3, 1, [], []), (24, .aload_n 0, 1, [], []), (25, .getfield 9, 3, [10, 0], []), (28, .iload_n 3, 1, [], []), (29, .iconst 0, 1, [0], []), (30, .iadd, 1, [], []), (31, .iaload, 1, [], []), (32, .iconst 1, 1, [1], []), (33, .if_icmp .ne 26, 3, [59, 0], []), (36, .aload_n 0, 1, [], []), (37, .getfield 9, 3, [10, 0], []), (40, .iload_n 3, 1, [], []), (41, .iconst 4, 1, [4], []), (42, .iadd, 1, [], []), (43, .iaload, 1, [], []), (44, .ifCond .eq 29, 3, [73, 0], []), (47, .aload_n 0, 1, [], []), (48, .getfield 9, 3, [10, 0], []), (51, .iload_n 3, 1, [], []), (52, .iconst 4, 1, [4], []), (53, .iadd, 1, [], []), (54, .iaload, 1, [], []), (55, .iconst 2, 1, [2], []), (56, .if_icmp .eq 17, 3, [73, 0], []), (59, .aload_n 0, 1, [], []), (60, .getfield 9, 3, [10, 0], []), (63, .sipush 135, 3, [135], []), (66, .iload_n 2, 1, [], []), (67, .iadd, 1, [], []), (68, .iaload, 1, [], []), (69, .iconst (-1), 1, [], []), (70, .if_icmp .eq 7, 3, [77, 0], []), (73, .iconst 1, 1, [1], []), (74, .goto 4, 3, [78, 0], []), (77, .iconst 0, 1, [0], []), (78, .istore 4, 2, [], [1, 1, 1, 0, 0]), (80, .iload 4, 2, [], []), (82, .ifCond .ne 6, 3, [88, 0], []), (85, .goto 25, 3, [110, 0], []), (88, .aload_n 0, 1, [], []), (89, .dup, 1, [], []), (90, .getfield 186, 3, [10, 12], []), (93, .iconst 1, 1, [1], []), (94, .iload_n 2, 1, [], []), (95, .ishl, 1, [], []), (96, .ior, 1, [], []), (97, .putfield 186, 3, [10, 12], []), (100, .iinc 1 1, 3, [], []), (103, .aload_n 0, 1, [], []), (104, .iload_n 2, 1, [], []), (105, .iconst 5, 1, [5], []), (106, .iconst 1, 1, [1], []), (107, .invokevirtual 153, 3, [4, 151, 4, 0], []), (110, .iinc 2 1, 3, [], []), (113, .goto (-104), 3, [9, 1, 1, 1, 1, 0, 0], []), (116, .aload_n 0, 1, [], []), (117, .getfield 9, 3, [10, 0], []), (120, .sipush 1329, 3, [1329], []), (123, .aload_n 0, 1, [], []), (124, .getfield 186, 3, [10, 12], []), (127, .iastore, 1, [], []), (128, .aload_n 0, 1, [], []), (129, .getfield 9, 3, [10, 0], []), (132, .sipush 1332, 3, [1332], []), (135, .iconst 1, 1, [1], []), (136, .iastore, 1, [], []), (137, .aload_n 0, 1, [], []), (138, .getfield 9, 3, [10, 0], []), (141, .iload_n 1, 1, [], []), (142, .ifCond .ne 9, 3, [151, 0], []), (145, .sipush 1334, 3, [1334], []), (148, .goto 17, 3, [165, 0], []), (151, .iload_n 1, 1, [], []), (152, .iconst 1, 1, [1], []), (153, .if_icmp .ne 9, 3, [162, 0], []), (156, .sipush 1333, 3, [1333], []), (159, .goto 6, 3, [165, 0], []), (162, .sipush 1335, 3, [1335], []), (165, .dup2, 1, [], []), (166, .iaload, 1, [], []), (167, .iconst 1, 1, [1], []), (168, .iadd, 1, [], []), (169, .iastore, 1, [], []), (170, .aload_n 0, 1, [], []), (171, .getfield 9, 3, [10, 0], []), (174, .sipush 1330, 3, [1330], []), (177, .iconst 0, 1, [0], []), (178, .iastore, 1, [], []), (179, .iconst 0, 1, [0], []), (180, .istore_n 2, 1, [], []), (181, .iload_n 2, 1, [], [1, 0, 1, 0, 0]), (182, .aload_n 0, 1, [], []), (183, .getfield 9, 3, [10, 0], []), (186, .iconst 0, 1, [0], []), (187, .iaload, 1, [], []), (188, .if_icmp .ge 50, 3, [238, 0], []), (191, .iconst 0, 1, [0], []), (192, .istore_n 3, 1, [], []), (193, .iload_n 3, 1, [], [1, 0, 1, 1, 0]), (194, .aload_n 0, 1, [], []), (195, .getfield 9, 3, [10, 0], []), (198, .iconst 0, 1, [0], []), (199, .iaload, 1, [], []), (200, .if_icmp .ge 32, 3, [232, 0], []), (203, .aload_n 0, 1, [], []), (204, .iload_n 2, 1, [], []), (205, .iload_n 3, 1, [], []), (206, .invokevirtual 189, 3, [3, 160, 3, 1], []), (209, .ifCond .eq 17, 3, [226, 0], []), (212, .aload_n 0, 1, [], []), (213, .getfield 9, 3, [10, 0], []), (216, .sipush 1330, 3, [1330], []), (219, .dup2, 1, [], []), (220, .iaload, 1, [], []), (221, .iconst 1, 1, [1], []), (222, .iload_n 2, 1, [], []), (223, .ishl, 1, [], []), (224, .ior, 1, [], []), (225, .iastore, 1, [], []), (226, .iinc 3 1, 3, [], []), (229, .goto (-36), 3, [193, 1, 1, 0, 1, 1, 0], []), (232, .iinc 2 1, 3, [], []), (235, .goto (-54), 3, [181, 1, 1, 0, 1, 0, 0], []), (238, .return_, 1, [], [])]
def k_X10_hearsOthers : List mE := [(0, .iconst 0, 1, [0], []), (1, .istore_n 3, 1, [], []), (2, .iload_n 3, 1, [], [1, 1, 1, 1]), (3, .aload_n 0, 1, [], []), (4, .getfield 9, 3, [10, 0], []), (7, .iconst 0, 1, [0], []), (8, .iaload, 1, [], []), (9, .if_icmp .ge 36, 3, [45, 0], []), (12, .iload_n 3, 1, [], []), (13, .iload_n 2, 1, [], []), (14, .if_icmp .eq 25, 3, [39, 0], []), (17, .aload_n 0, 1, [], []), (18, .iload_n 1, 1, [], []), (19, .iload_n 3, 1, [], []), (20, .invokevirtual 127, 3, [3, 124, 3, 1], []), (23, .ifCond .eq 16, 3, [39, 0], []), (26, .aload_n 0, 1, [], []), (27, .getfield 186, 3, [10, 12], []), (30, .iload_n 3, 1, [], []), (31, .invokestatic 174, 3, [2, 116, 2, 1], []), (34, .ifCond .eq 5, 3, [39, 0], []), (37, .iconst 1, 1, [1], []), (38, .ireturn, 1, [1], []), (39, .iinc 3 1, 3, [], []), (42, .goto (-40), 3, [2, 1, 1, 1, 1, 1], []), (45, .iconst 0, 1, [0], []), (46, .ireturn, 1, [1], [])]
def k_X10_isClear : List mE := [(0, .iload_n 2, 1, [], []), (1, .iload_n 1, 1, [], []), (2, .if_icmp .eq 47, 3, [49, 0], []), (5, .aload_n 0, 1, [], []), (6, .iload_n 1, 1, [], []), (7, .iload_n 2, 1, [], []), (8, .invokevirtual 127, 3, [3, 124, 3, 1], []), (11, .ifCond .eq 38, 3, [49, 0], []), (14, .aload_n 0, 1, [], []), (15, .getfield 186, 3, [10, 12], []), (18, .iload_n 2, 1, [], []), (19, .invokestatic 174, 3, [2, 116, 2, 1], []), (22, .ifCond .eq 27, 3, [49, 0], []), (25, .aload_n 0, 1, [], []), (26, .getfield 186, 3, [10, 12], []), (29, .iload_n 1, 1, [], []), (30, .invokestatic 174, 3, [2, 116, 2, 1], []), (33, .ifCond .ne 16, 3, [49, 0], []), (36, .aload_n 0, 1, [], []), (37, .iload_n 1, 1, [], []), (38, .iload_n 2, 1, [], []), (39, .invokevirtual 192, 3, [3, 159, 4, 1], []), (42, .ifCond .ne 7, 3, [49, 0], []), (45, .iconst 1, 1, [1], []), (46, .goto 4, 3, [50, 0], []), (49, .iconst 0, 1, [0], []), (50, .ireturn, 1, [1], [])]
def k_X10_spans : List mE := [(0, .iconst 0, 1, [0], []), (1, .istore 5, 2, [], []), (3, .iload 5, 2, [], [1, 1, 1, 1, 1, 1]), (5, .aload_n 0, 1, [], []), (6, .getfield 9, 3, [10, 0], []), (9, .iconst 0, 1, [0], []), (10, .iaload, 1, [], []), (11, .if_icmp .ge 91, 3, [102, 0], []), (14, .iload 5, 2, [], []), (16, .iload_n 2, 1, [], []), (17, .if_icmp .eq 79, 3, [96, 0], []), (20, .aload_n 0, 1, [], []), (21, .iload 5, 2, [], []), (23, .iload_n 1, 1, [], []), (24, .invokevirtual 189, 3, [3, 160, 3, 1], []), (27, .ifCond .eq 69, 3, [96, 0], []), (30, .aload_n 0, 1, [], []), (31, .getfield 9, 3, [10, 0], []), (34, .sipush 129, 3, [129], []), (37, .iload 5, 2, [], []), (39, .iadd, 1, [], []), (40, .iaload, 1, [], []), (41, .iload_n 3, 1, [], []), (42, .if_icmp .lt 6, 3, [48, 0], []), (45, .goto 51, 3, [96, 0], []), (48, .aload_n 0, 1, [], []), (49, .getfield 9, 3, [10, 0], []), (52, .sipush 129, 3, [129], []), (55, .iload 5, 2, [], []), (57, .iadd, 1, [], []), (58, .iload_n 3, 1, [], []), (59, .iastore, 1, [], []), (60, .aload_n 0, 1, [], []), (61, .getfield 9, 3, [10, 0], []), (64, .sipush 1420, 3, [1420], []), (67, .iload 5, 2, [], []), (69, .iadd, 1, [], []), (70, .iload 4, 2, [], []), (72, .iastore, 1, [], []), (73, .aload_n 0, 1, [], []), (74, .getfield 9, 3, [10, 0], []), (77, .sipush 1426, 3, [1426], []), (80, .iload 5, 2, [], []), (82, .iadd, 1, [], []), (83, .aload_n 0, 1, [], []), (84, .getfield 9, 3, [10, 0], []), (87, .iload 4, 2, [], []), (89, .invokestatic 117, 3, [1, 127, 1, 1], []), (92, .iconst 4, 1, [4], []), (93, .iadd, 1, [], []), (94, .iaload, 1, [], []), (95, .iastore, 1, [], []), (96, .iinc 5 1, 3, [], []), (99, .goto (-96), 3, [3, 1, 1, 1, 1, 1, 1, 1], []), (102, .return_, 1, [], [])]
def k_X10_owes : List mE := [(0, .aload_n 0, 1, [], []), (1, .getfield 24, 3, [10, 10], []), (4, .iload_n 1, 1, [], []), (5, .iload_n 2, 1, [], []), (6, .iastore, 1, [], []), (7, .aload_n 0, 1, [], []), (8, .getfield 27, 3, [10, 11], []), (11, .iload_n 1, 1, [], []), (12, .iload_n 3, 1, [], []), (13, .iastore, 1, [], []), (14, .return_, 1, [], [])]
def k_X10_sendsIt : List mE := [(0, .aload_n 0, 1, [], []), (1, .getfield 9, 3, [10, 0], []), (4, .sipush 135, 3, [135], []), (7, .iload_n 1, 1, [], []), (8, .iadd, 1, [], []), (9, .iaload, 1, [], []), (10, .iload_n 2, 1, [], []), (11, .if_icmp .ne 30, 3, [41, 0], []), (14, .aload_n 0, 1, [], []), (15, .getfield 9, 3, [10, 0], []), (18, .sipush 141, 3, [141], []), (21, .iload_n 1, 1, [], []), (22, .iadd, 1, [], []), (23, .iaload, 1, [], []), (24, .iload_n 3, 1, [], []), (25, .if_icmp .ne 16, 3, [41, 0], []), (28, .aload_n 0, 1, [], []), (29, .iload_n 2, 1, [], []), (30, .iload_n 1, 1, [], []), (31, .invokevirtual 189, 3, [3, 160, 3, 1], []), (34, .ifCond .eq 7, 3, [41, 0], []), (37, .iconst 1, 1, [1], []), (38, .goto 4, 3, [42, 0], []), (41, .iconst 0, 1, [0], []), (42, .ireturn, 1, [1], [])]
def k_X10_failsBy : List mE := [(0, .iload_n 1, 1, [], []), (1, .invokestatic 117, 3, [1, 127, 1, 1], []), (4, .istore_n 3, 1, [], []), (5, .aload_n 0, 1, [], []), (6, .getfield 9, 3, [10, 0], []), (9, .iload_n 3, 1, [], []), (10, .iconst 0, 1, [0], []), (11, .iadd, 1, [], []), (12, .iconst 0, 1, [0], []), (13, .iastore, 1, [], []), (14, .aload_n 0, 1, [], []), (15, .getfield 9, 3, [10, 0], []), (18, .iload_n 3, 1, [], []), (19, .bipush 15, 2, [15], []), (21, .iadd, 1, [], []), (22, .iaload, 1, [], []), (23, .istore 4, 2, [], []), (25, .aload_n 0, 1, [], []), (26, .getfield 9, 3, [10, 0], []), (29, .sipush 1342, 3, [1342], []), (32, .iconst 3, 1, [3], []), (33, .iload_n 1, 1, [], []), (34, .imul, 1, [], []), (35, .iadd, 1, [], []), (36, .iload 4, 2, [], []), (38, .ifCond .le 8, 3, [46, 0], []), (41, .iload 4, 2, [], []), (43, .goto 13, 3, [56, 0], []), (46, .iload_n 2, 1, [], []), (47, .ifCond .eq 8, 3, [55, 0], []), (50, .bipush 7, 2, [7], []), (52, .goto 4, 3, [56, 0], []), (55, .iconst 4, 1, [4], []), (56, .iastore, 1, [], [1, 1, 1, 1, 0, 0]), (57, .aload_n 0, 1, [], []), (58, .getfield 9, 3, [10, 0], []), (61, .sipush 1342, 3, [1342], []), (64, .iconst 3, 1, [3], []), (65, .iload_n 1, 1, [], []), (66, .imul, 1, [], []), (67, .iadd, 1, [], []), (68, .iconst 1, 1, [1], []), (69, .iadd, 1, [], []), (70, .aload_n 0, 1, [], []), (71, .getfield 9, 3, [10, 0], []), (74, .iconst 1, 1, [1], []), (75, .iaload, 1, [], []), (76, .iastore, 1, [], []), (77, .aload_n 0, 1, [], []), (78, .getfield 9, 3, [10, 0], []), (81, .sipush 1342, 3, [1342], []), (84, .iconst 3, 1, [3], []), (85, .iload_n 1, 1, [], []), (86, .imul, 1, [], []), (87, .iadd, 1, [], []), (88, .iconst 2, 1, [2], []), (89, .iadd, 1, [], []), (90, .aload_n 0, 1, [], []), (91, .getfield 9, 3, [10, 0], []), (94, .iload_n 3, 1, [], []), (95, .iconst 1, 1, [1], []), (96, .iadd, 1, [], []), (97, .iaload, 1, [], []), (98, .iastore, 1, [], []), (99, .aload_n 0, 1, [], []), (100, .iload_n 1, 1, [], []), (101, .iconst 4, 1, [4], []), (102, .iconst 1, 1, [1], []), (103, .invokevirtual 153, 3, [4, 151, 4, 0], []), (106, .aload_n 0, 1, [], []), (107, .getfield 9, 3, [10, 0], []), (110, .sipush 1338, 3, [1338], []), (113, .dup2, 1, [], []), (114, .iaload, 1, [], []), (115, .iconst 1, 1, [1], []), (116, .iadd, 1, [], []), (117, .iastore, 1, [], []), (118, .aload_n 0, 1, [], []), (119, .iload_n 1, 1, [], []), (120, .aload_n 0, 1, [], []), (121, .getfield 9, 3, [10, 0], []), (124, .iload_n 3, 1, [], []), (125, .iconst 2, 1, [2], []), (126, .iadd, 1, [], []), (127, .iaload, 1, [], []), (128, .invokevirtual 183, 3, [3, 154, 5, 0], []), (131, .iload_n 2, 1, [], []), (132, .ifCond .ne 4, 3, [136, 0], []), (135, .return_, 1, [], []), (136, .bipush 6, 2, [6], []), (138, .iload_n 1, 1, [], []), (139, .imul, 1, [], []), (140, .aload_n 0, 1, [], []), (141, .getfield 9, 3, [10, 0], []), (144, .iload_n 3, 1, [], []), (145, .iconst 1, 1, [1], []), (146, .iadd, 1, [], []), (147, .iaload, 1, [], []), (148, .iadd, 1, [], []), (149, .istore 5, 2, [], []), (151, .aload_n 0, 1, [], []), (152, .getfield 9, 3, [10, 0], []), (155, .bipush 51, 2, [51], []), (157, .iload 5, 2, [], []), (159, .iadd, 1, [], []), (160, .iconst 1, 1, [1], []), (161, .aload_n 0, 1, [], []), (162, .getfield 9, 3, [10, 0], []), (165, .bipush 51, 2, [51], []), (167, .iload 5, 2, [], []), (169, .iadd, 1, [], []), (170, .iaload, 1, [], []), (171, .iconst 1, 1, [1], []), (172, .isub, 1, [], []), (173, .invokestatic 195, 3, [1000], []), (176, .iastore, 1, [], []), (177, .aload_n 0, 1, [], []), (178, .getfield 9, 3, [10, 0], []), (181, .bipush 87, 2, [87], []), (183, .iload 5, 2, [], []), (185, .iadd, 1, [], []), (186, .iconst 0, 1, [0], []), (187, .iastore, 1, [], []), (188, .return_, 1, [], [])]
def k_X10_stepData : List mE := [(0, .iload_n 1, 1, [], []), (1, .invokestatic 117, 3, [1, 127, 1, 1], []), (4, .istore_n 2, 1, [], []), (5, .aload_n 0, 1, [], []), (6, .getfield 9, 3, [10, 0], []), (9, .iload_n 2, 1, [], []), (10, .iconst 1, 1, [1], []), (11, .iadd, 1, [], []), (12, .iaload, 1, [], []), (13, .istore_n 3, 1, [], []), (14, .aload_n 0, 1, [], []), (15, .iload_n 3, 1, [], []), (16, .iload_n 1, 1, [], []), (17, .invokevirtual 189, 3, [3, 160, 3, 1], []), (20, .ifCond .eq 30, 3, [50, 0], []), (23, .aload_n 0, 1, [], []), (24, .iload_n 1, 1, [], []), (25, .iload_n 3, 1, [], []), (26, .invokevirtual 63, 3, [3, 123, 3, 1], []), (29, .aload_n 0, 1, [], []), (30, .getfield 9, 3, [10, 0], []), (33, .bipush 51, 2, [51], []), (35, .bipush 6, 2, [6], []), (37, .iload_n 1, 1, [], []), (38, .imul, 1, [], []), (39, .iadd, 1, [], []), (40, .iload_n 3, 1, [], []), (41, .iadd, 1, [], []), (42, .iaload, 1, [], []), (43, .if_icmp .lt 7, 3, [50, 0], []), (46, .iconst 1, 1, [1], []), (47, .goto 4, 3, [51, 0], []), (50, .iconst 0, 1, [0], []), (51, .istore 4, 2, [], []), (53, .iload 4, 2, [], []), (55, .ifCond .ne 13, 3, [68, 0], []), (58, .aload_n 0, 1, [], []), (59, .getfield 9, 3, [10, 0], []), (62, .iload_n 2, 1, [], []), (63, .bipush 9, 2, [9], []), (65, .iadd, 1, [], []), (66, .iconst 0, 1, [0], []), (67, .iastore, 1, [], []), (68, .aload_n 0, 1, [], []), (69, .getfield 9, 3, [10, 0], []), (72, .sipush 1396, 3, [1396], []), (75, .iload_n 1, 1, [], []), (76, .iadd, 1, [], []), (77, .dup2, 1, [], []), (78, .iaload, 1, [], []), (79, .iconst 1, 1, [1], []), (80, .iadd, 1, [], []), (81, .iastore, 1, [], []), (82, .iconst 0, 1, [0], []), (83, .istore 5, 2, [], []), (85, .iload 5, 2, [], [1, 1, 1, 1, 0, 1]), (87, .aload_n 0, 1, [], []), (88, .getfield 9, 3, [10, 0], []), (91, .iconst 0, 1, [0], []), (92, .iaload, 1, [], []), (93, .if_icmp .ge 66, 3, [159, 0], []), (96, .aload_n 0, 1, [], []), (97, .iload_n 3, 1, [], []), (98, .iload_n 1, 1, [], []), (99, .invokevirtual 189, 3, [3, 160, 3, 1], []), (102, .ifCond .ne 57, 3, [159, 0], []), (105, .iload 5, 2, [], []), (107, .iload_n 1, 1, [], []), (108, .if_icmp .eq 45, 3, [153, 0], []), (111, .aload_n 0, 1, [], []), (112, .iload_n 3, 1, [], []), (113, .iload 5, 2, [], []), (115, .invokevirtual 127, 3, [3, 124, 3, 1], []), (118, .ifCond .eq 35, 3, [153, 0], []), (121, .aload_n 0, 1, [], []), (122, .getfield 186, 3, [10, 12], []), (125, .iload 5, 2, [], []), (127, .invokestatic 174, 3, [2, 116, 2, 1], []), (130, .ifCond .eq 23, 3, [153, 0], []), (133, .aload_n 0, 1, [], []), (134, .getfield 9, 3, [10, 0], []), (137, .sipush 1360, 3, [1360], []), (140, .bipush 6, 2, [6], []), (142, .iload_n 1, 1, [], []), (143, .imul, 1, [], []), (144, .iadd, 1, [], []), (145, .iload 5, 2, [], []), (147, .iadd, 1, [], []), (148, .dup2, 1, [], []), (149, .iaload, 1, [], []), (150, .iconst 1, 1, [1], []), (151, .iadd, 1, [], []), (152, .iastore, 1, [], []), (153, .iinc 5 1, 3, [], []), (156, .goto (-71), 3, [85, 1, 1, 1, 1, 1, 0, 1], []), (159, .aload_n 0, 1, [], [1, 1, 1, 1, 0, 0]), (160, .getfield 9, 3, [10, 0], []), (163, .iload_n 2, 1, [], []), (164, .bipush 8, 2, [8], []), (166, .iadd, 1, [], []), (167, .dup2, 1, [], []), (168, .iaload, 1, [], []), (169, .iconst 1, 1, [1], []), (170, .isub, 1, [], []), (171, .iastore, 1, [], []), (172, .aload_n 0, 1, [], []), (173, .getfield 9, 3, [10, 0], []), (176, .iload_n 2, 1, [], []), (177, .iconst 5, 1, [5], []), (178, .iadd, 1, [], []), (179, .dup2, 1, [], []), (180, .iaload, 1, [], []), (181, .iconst 1, 1, [1], []), (182, .isub, 1, [], []), (183, .iastore, 1, [], []), (184, .aload_n 0, 1, [], []), (185, .getfield 9, 3, [10, 0], []), (188, .iload_n 2, 1, [], []), (189, .bipush 8, 2, [8], []), (191, .iadd, 1, [], []), (192, .iaload, 1, [], []), (193, .ifCond .ne 114, 3, [307, 0], []), (196, .aload_n 0, 1, [], []), (197, .getfield 9, 3, [10, 0], []), (200, .iload_n 2, 1, [], []), (201, .bipush 9, 2, [9], []), (203, .iadd, 1, [], []), (204, .iaload, 1, [], []), (205, .iconst 1, 1, [1], []), (206, .if_icmp .ne 26, 3, [232, 0], []), (209, .aload_n 0, 1, [], []), (210, .getfield 9, 3, [10, 0], []), (213, .iload_n 2, 1, [], []), (214, .bipush 6, 2, [6], []), (216, .iadd, 1, [], []), (217, .dup2, 1, [], []), (218, .iaload, 1, [], []), (219, .iconst 1, 1, [1], []), (220, .aload_n 0, 1, [], []), (221, .getfield 9, 3, [10, 0], []), (224, .iload_n 2, 1, [], []), (225, .bipush 7, 2, [7], []), (227, .iadd, 1, [], []), (228, .iaload, 1, [], []), (229, .ishl, 1, [], []), (230, .ior, 1, [], []), (231, .iastore, 1, [], []), (232, .aload_n 0, 1, [], []), (233, .getfield 9, 3, [10, 0], []), (236, .iload_n 2, 1, [], []), (237, .bipush 7, 2, [7], []), (239, .iadd, 1, [], []), (240, .dup2, 1, [], []), (241, .iaload, 1, [], []), (242, .iconst 1, 1, [1], []), (243, .iadd, 1, [], []), (244, .iastore, 1, [], []), (245, .aload_n 0, 1, [], []), (246, .getfield 9, 3, [10, 0], []), (249, .iload_n 2, 1, [], []), (250, .bipush 9, 2, [9], []), (252, .iadd, 1, [], []), (253, .iconst 1, 1, [1], []), (254, .iastore, 1, [], []), (255, .aload_n 0, 1, [], []), (256, .getfield 9, 3, [10, 0], []), (259, .iload_n 2, 1, [], []), (260, .bipush 8, 2, [8], []), (262, .iadd, 1, [], []), (263, .aload_n 0, 1, [], []), (264, .getfield 9, 3, [10, 0], []), (267, .iload_n 2, 1, [], []), (268, .bipush 7, 2, [7], []), (270, .iadd, 1, [], []), (271, .iaload, 1, [], []), (272, .aload_n 0, 1, [], []), (273, .getfield 9, 3, [10, 0], []), (276, .iload_n 2, 1, [], []), (277, .iconst 3, 1, [3], []), (278, .iadd, 1, [], []), (279, .iaload, 1, [], []), (280, .if_icmp .ge 25, 3, [305, 0], []), (283, .aload_n 0, 1, [], []), (284, .getfield 9, 3, [10, 0], []), (287, .iload_n 2, 1, [], []), (288, .bipush 11, 2, [11], []), (290, .iadd, 1, [], []), (291, .aload_n 0, 1, [], []), (292, .getfield 9, 3, [10, 0], []), (295, .iload_n 2, 1, [], []), (296, .bipush 7, 2, [7], []), (298, .iadd, 1, [], []), (299, .iaload, 1, [], []), (300, .iadd, 1, [], []), (301, .iaload, 1, [], []), (302, .goto 4, 3, [306, 0], []), (305, .iconst 0, 1, [0], []), (306, .iastore, 1, [], []), (307, .aload_n 0, 1, [], [1, 1, 1, 1, 0, 0]), (308, .getfield 9, 3, [10, 0], []), (311, .iload_n 2, 1, [], []), (312, .iconst 5, 1, [5], []), (313, .iadd, 1, [], []), (314, .iaload, 1, [], []), (315, .ifCond .le 4, 3, [319, 0], []), (318, .return_, 1, [], []), (319, .aload_n 0, 1, [], []), (320, .iload_n 1, 1, [], []), (321, .iload_n 3, 1, [], []), (322, .aload_n 0, 1, [], []), (323, .getfield 9, 3, [10, 0], []), (326, .iconst 1, 1, [1], []), (327, .iaload, 1, [], []), (328, .iconst 2, 1, [2], []), (329, .iadd, 1, [], []), (330, .iload_n 1, 1, [], []), (331, .invokevirtual 198, 3, [5, 161, 6, 0], []), (334, .aload_n 0, 1, [], []), (335, .getfield 9, 3, [10, 0], []), (338, .iload_n 2, 1, [], []), (339, .bipush 15, 2, [15], []), (341, .iadd, 1, [], []), (342, .aload_n 0, 1, [], []), (343, .getfield 9, 3, [10, 0], []), (346, .iload_n 2, 1, [], []), (347, .bipush 6, 2, [6], []), (349, .iadd, 1, [], []), (350, .iaload, 1, [], []), (351, .ifCond .ne 7, 3, [358, 0], []), (354, .iconst 5, 1, [5], []), (355, .goto 17, 3, [372, 0], []), (358, .aload_n 0, 1, [], []), (359, .iload_n 3, 1, [], []), (360, .invokevirtual 171, 3, [2, 149, 2, 1], []), (363, .ifCond .eq 7, 3, [370, 0], []), (366, .iconst 0, 1, [0], []), (367, .goto 5, 3, [372, 0], []), (370, .bipush 6, 2, [6], []), (372, .iastore, 1, [], []), (373, .aload_n 0, 1, [], []), (374, .getfield 9, 3, [10, 0], []), (377, .iload_n 2, 1, [], []), (378, .bipush 15, 2, [15], []), (380, .iadd, 1, [], []), (381, .iaload, 1, [], []), (382, .ifCond .ne 10, 3, [392, 0], []), (385, .aload_n 0, 1, [], []), (386, .iload_n 3, 1, [], []), (387, .iload_n 1, 1, [], []), (388, .iconst 2, 1, [2], []), (389, .invokevirtual 202, 3, [4, 162, 4, 0], []), (392, .aload_n 0, 1, [], []), (393, .getfield 9, 3, [10, 0], []), (396, .iload_n 2, 1, [], []), (397, .iconst 4, 1, [4], []), (398, .iadd, 1, [], []), (399, .iconst 3, 1, [3], []), (400, .iastore, 1, [], []), (401, .return_, 1, [], [])]
def k_X10_delivers : List mE := [(0, .iload_n 1, 1, [], []), (1, .invokestatic 117, 3, [1, 127, 1, 1], []), (4, .istore_n 2, 1, [], []), (5, .aload_n 0, 1, [], []), (6, .getfield 9, 3, [10, 0], []), (9, .iload_n 2, 1, [], []), (10, .iconst 2, 1, [2], []), (11, .iadd, 1, [], []), (12, .iaload, 1, [], []), (13, .istore_n 3, 1, [], []), (14, .iconst 0, 1, [0], []), (15, .istore 4, 2, [], []), (17, .iconst 0, 1, [0], []), (18, .istore 5, 2, [], []), (20, .iload 5, 2, [], [1, 1, 1, 1, 1, 1, 0, 0]), (22, .aload_n 0, 1, [], []), (23, .getfield 9, 3, [10, 0], []), (26, .iload_n 2, 1, [], []), (27, .iconst 3, 1, [3], []), (28, .iadd, 1, [], []), (29, .iaload, 1, [], []), (30, .if_icmp .ge 213, 3, [243, 0], []), (33, .iload_n 1, 1, [], []), (34, .iload_n 3, 1, [], []), (35, .iload 4, 2, [], []), (37, .invokestatic 135, 3, [3, 126, 3, 1], []), (40, .istore 6, 2, [], []), (42, .aload_n 0, 1, [], []), (43, .getfield 9, 3, [10, 0], []), (46, .iload_n 2, 1, [], []), (47, .bipush 6, 2, [6], []), (49, .iadd, 1, [], []), (50, .iaload, 1, [], []), (51, .iload 5, 2, [], []), (53, .invokestatic 174, 3, [2, 116, 2, 1], []), (56, .ifCond .eq 136, 3, [192, 0], []), (59, .aload_n 0, 1, [], []), (60, .iload_n 1, 1, [], []), (61, .iconst 0, 1, [0], []), (62, .iconst 1, 1, [1], []), (63, .invokevirtual 153, 3, [4, 151, 4, 0], []), (66, .aload_n 0, 1, [], []), (67, .iload_n 1, 1, [], []), (68, .iconst 1, 1, [1], []), (69, .aload_n 0, 1, [], []), (70, .getfield 9, 3, [10, 0], []), (73, .iload 6, 2, [], []), (75, .iconst 1, 1, [1], []), (76, .iadd, 1, [], []), (77, .iaload, 1, [], []), (78, .invokevirtual 153, 3, [4, 151, 4, 0], []), (81, .aload_n 0, 1, [], []), (82, .getfield 9, 3, [10, 0], []), (85, .sipush 1336, 3, [1336], []), (88, .dup2, 1, [], []), (89, .iaload, 1, [], []), (90, .iconst 1, 1, [1], []), (91, .iadd, 1, [], []), (92, .iastore, 1, [], []), (93, .aload_n 0, 1, [], []), (94, .getfield 9, 3, [10, 0], []), (97, .iload 6, 2, [], []), (99, .iconst 4, 1, [4], []), (100, .iadd, 1, [], []), (101, .iaload, 1, [], []), (102, .iconst 1, 1, [1], []), (103, .if_icmp .ne 12, 3, [115, 0], []), (106, .aload_n 0, 1, [], []), (107, .getfield 9, 3, [10, 0], []), (110, .sipush 1340, 3, [1340], []), (113, .iconst 1, 1, [1], []), (114, .iastore, 1, [], []), (115, .aload_n 0, 1, [], [1, 1, 1, 1, 1, 1, 1, 0]), (116, .getfield 9, 3, [10, 0], []), (119, .iconst 1, 1, [1], []), (120, .iaload, 1, [], []), (121, .aload_n 0, 1, [], []), (122, .getfield 9, 3, [10, 0], []), (125, .iload 6, 2, [], []), (127, .iconst 3, 1, [3], []), (128, .iadd, 1, [], []), (129, .iaload, 1, [], []), (130, .isub, 1, [], []), (131, .iconst 1, 1, [1], []), (132, .iadd, 1, [], []), (133, .istore 7, 2, [], []), (135, .aload_n 0, 1, [], []), (136, .iload_n 1, 1, [], []), (137, .bipush 7, 2, [7], []), (139, .iload 7, 2, [], []), (141, .invokevirtual 153, 3, [4, 151, 4, 0], []), (144, .aload_n 0, 1, [], []), (145, .getfield 9, 3, [10, 0], []), (148, .sipush 1275, 3, [1275], []), (151, .bipush 9, 2, [9], []), (153, .iload_n 1, 1, [], []), (154, .imul, 1, [], []), (155, .iadd, 1, [], []), (156, .bipush 8, 2, [8], []), (158, .iadd, 1, [], []), (159, .aload_n 0, 1, [], []), (160, .getfield 9, 3, [10, 0], []), (163, .sipush 1275, 3, [1275], []), (166, .bipush 9, 2, [9], []), (168, .iload_n 1, 1, [], []), (169, .imul, 1, [], []), (170, .iadd, 1, [], []), (171, .bipush 8, 2, [8], []), (173, .iadd, 1, [], []), (174, .iaload, 1, [], []), (175, .iload 7, 2, [], []), (177, .invokestatic 195, 3, [1000], []), (180, .iastore, 1, [], []), (181, .aload_n 0, 1, [], []), (182, .iload_n 1, 1, [], []), (183, .iload_n 3, 1, [], []), (184, .iload 4, 2, [], []), (186, .invokevirtual 149, 3, [4, 146, 6, 0], []), (189, .goto 48, 3, [237, 0], []), (192, .aload_n 0, 1, [], []), (193, .getfield 9, 3, [10, 0], []), (196, .iload 6, 2, [], []), (198, .iconst 2, 1, [2], []), (199, .iadd, 1, [], []), (200, .dup2, 1, [], []), (201, .iaload, 1, [], []), (202, .iconst 1, 1, [1], []), (203, .iadd, 1, [], []), (204, .iastore, 1, [], []), (205, .aload_n 0, 1, [], []), (206, .getfield 9, 3, [10, 0], []), (209, .iload 6, 2, [], []), (211, .iconst 2, 1, [2], []), (212, .iadd, 1, [], []), (213, .iaload, 1, [], []), (214, .aload_n 0, 1, [], []), (215, .getfield 9, 3, [10, 0], []), (218, .iconst 4, 1, [4], []), (219, .iaload, 1, [], []), (220, .if_icmp .lt 14, 3, [234, 0], []), (223, .aload_n 0, 1, [], []), (224, .iload_n 1, 1, [], []), (225, .iload_n 3, 1, [], []), (226, .iload 4, 2, [], []), (228, .invokevirtual 156, 3, [4, 153, 4, 0], []), (231, .goto 6, 3, [237, 0], []), (234, .iinc 4 1, 3, [], []), (237, .iinc 5 1, 3, [], []), (240, .goto (-220), 3, [20, 1, 1, 1, 1, 1, 1, 1, 0, 0], []), (243, .aload_n 0, 1, [], []), (244, .getfield 9, 3, [10, 0], []), (247, .iload_n 2, 1, [], []), (248, .iconst 0, 1, [0], []), (249, .iadd, 1, [], []), (250, .iconst 0, 1, [0], []), (251, .iastore, 1, [], []), (252, .aload_n 0, 1, [], []), (253, .getfield 9, 3, [10, 0], []), (256, .sipush 1131, 3, [1131], []), (259, .iload_n 1, 1, [], []), (260, .iload_n 3, 1, [], []), (261, .invokestatic 67, 3, [2, 125, 2, 1], []), (264, .iadd, 1, [], []), (265, .aload_n 0, 1, [], []), (266, .getfield 9, 3, [10, 0], []), (269, .bipush 9, 2, [9], []), (271, .iload_n 3, 1, [], []), (272, .iadd, 1, [], []), (273, .iaload, 1, [], []), (274, .iastore, 1, [], []), (275, .aload_n 0, 1, [], []), (276, .iload_n 1, 1, [], []), (277, .iload_n 3, 1, [], []), (278, .invokevirtual 164, 3, [3, 152, 3, 0], []), (281, .bipush 6, 2, [6], []), (283, .iload_n 1, 1, [], []), (284, .imul, 1, [], []), (285, .aload_n 0, 1, [], []), (286, .getfield 9, 3, [10, 0], []), (289, .iload_n 2, 1, [], []), (290, .iconst 1, 1, [1], []), (291, .iadd, 1, [], []), (292, .iaload, 1, [], []), (293, .iadd, 1, [], []), (294, .istore 5, 2, [], []), (296, .aload_n 0, 1, [], []), (297, .getfield 9, 3, [10, 0], []), (300, .bipush 87, 2, [87], []), (302, .iload 5, 2, [], []), (304, .iadd, 1, [], []), (305, .dup2, 1, [], []), (306, .iaload, 1, [], []), (307, .iconst 1, 1, [1], []), (308, .iadd, 1, [], []), (309, .iastore, 1, [], []), (310, .aload_n 0, 1, [], []), (311, .getfield 9, 3, [10, 0], []), (314, .bipush 87, 2, [87], []), (316, .iload 5, 2, [], []), (318, .iadd, 1, [], []), (319, .iaload, 1, [], []), (320, .iconst 3, 1, [3], []), (321, .if_icmp .ge 4, 3, [325, 0], []), (324, .return_, 1, [], []), (325, .aload_n 0, 1, [], []), (326, .getfield 9, 3, [10, 0], []), (329, .bipush 51, 2, [51], []), (331, .iload 5, 2, [], []), (333, .iadd, 1, [], []), (334, .iconst 3, 1, [3], []), (335, .aload_n 0, 1, [], []), (336, .getfield 9, 3, [10, 0], []), (339, .bipush 51, 2, [51], []), (341, .iload 5, 2, [], []), (343, .iadd, 1, [], []), (344, .iaload, 1, [], []), (345, .iconst 1, 1, [1], []), (346, .iadd, 1, [], []), (347, .invokestatic 159, 3, [1001], []), (350, .iastore, 1, [], []), (351, .aload_n 0, 1, [], []), (352, .getfield 9, 3, [10, 0], []), (355, .bipush 87, 2, [87], []), (357, .iload 5, 2, [], []), (359, .iadd, 1, [], []), (360, .iconst 0, 1, [0], []), (361, .iastore, 1, [], []), (362, .return_, 1, [], [])]
def k_X10_stepSender : List mE := [(0, .iload_n 1, 1, [], []), (1, .invokestatic 117, 3, [1, 127, 1, 1], []), (4, .istore_n 2, 1, [], []), (5, .aload_n 0, 1, [], []), (6, .getfield 9, 3, [10, 0], []), (9, .iload_n 2, 1, [], []), (10, .iconst 1, 1, [1], []), (11, .iadd, 1, [], []), (12, .iaload, 1, [], []), (13, .istore_n 3, 1, [], []), (14, .aload_n 0, 1, [], []), (15, .getfield 9, 3, [10, 0], []), (18, .iload_n 2, 1, [], []), (19, .iconst 4, 1, [4], []), (20, .iadd, 1, [], []), (21, .iaload, 1, [], []), (22, .tableswitch 178 0 2 #[26, 129, 172], 26, [200, 48, 151, 194], []), (48, .aload_n 0, 1, [], []), (49, .getfield 9, 3, [10, 0], []), (52, .iload_n 2, 1, [], []), (53, .bipush 15, 2, [15], []), (55, .iadd, 1, [], []), (56, .aload_n 0, 1, [], []), (57, .iload_n 3, 1, [], []), (58, .iload_n 1, 1, [], []), (59, .invokevirtual 189, 3, [3, 160, 3, 1], []), (62, .ifCond .ne 7, 3, [69, 0], []), (65, .iconst 1, 1, [1], []), (66, .goto 39, 3, [105, 0], []), (69, .aload_n 0, 1, [], []), (70, .iload_n 3, 1, [], []), (71, .invokevirtual 171, 3, [2, 149, 2, 1], []), (74, .ifCond .ne 7, 3, [81, 0], []), (77, .iconst 2, 1, [2], []), (78, .goto 27, 3, [105, 0], []), (81, .aload_n 0, 1, [], []), (82, .getfield 9, 3, [10, 0], []), (85, .iconst 1, 1, [1], []), (86, .iaload, 1, [], []), (87, .aload_n 0, 1, [], []), (88, .getfield 9, 3, [10, 0], []), (91, .sipush 129, 3, [129], []), (94, .iload_n 3, 1, [], []), (95, .iadd, 1, [], []), (96, .iaload, 1, [], []), (97, .if_icmp .ge 7, 3, [104, 0], []), (100, .iconst 3, 1, [3], []), (101, .goto 4, 3, [105, 0], []), (104, .iconst 0, 1, [0], []), (105, .iastore, 1, [], [1, 1, 1, 1]), (106, .aload_n 0, 1, [], []), (107, .getfield 9, 3, [10, 0], []), (110, .iload_n 2, 1, [], []), (111, .bipush 15, 2, [15], []), (113, .iadd, 1, [], []), (114, .iaload, 1, [], []), (115, .ifCond .ne 10, 3, [125, 0], []), (118, .aload_n 0, 1, [], []), (119, .iload_n 3, 1, [], []), (120, .iload_n 1, 1, [], []), (121, .iconst 1, 1, [1], []), (122, .invokevirtual 202, 3, [4, 162, 4, 0], []), (125, .aload_n 0, 1, [], []), (126, .iload_n 1, 1, [], []), (127, .iload_n 3, 1, [], []), (128, .aload_n 0, 1, [], []), (129, .getfield 9, 3, [10, 0], []), (132, .iload_n 2, 1, [], []), (133, .bipush 10, 2, [10], []), (135, .iadd, 1, [], []), (136, .iaload, 1, [], []), (137, .iload_n 1, 1, [], []), (138, .invokevirtual 198, 3, [5, 161, 6, 0], []), (141, .aload_n 0, 1, [], []), (142, .getfield 9, 3, [10, 0], []), (145, .iload_n 2, 1, [], []), (146, .iconst 4, 1, [4], []), (147, .iadd, 1, [], []), (148, .iconst 1, 1, [1], []), (149, .iastore, 1, [], []), (150, .return_, 1, [], []), (151, .aload_n 0, 1, [], []), (152, .iload_n 3, 1, [], []), (153, .iload_n 1, 1, [], []), (154, .iconst 1, 1, [1], []), (155, .invokevirtual 205, 3, [4, 163, 4, 1], []), (158, .ifCond .ne 10, 3, [168, 0], []), (161, .aload_n 0, 1, [], []), (162, .iload_n 1, 1, [], []), (163, .iconst 0, 1, [0], []), (164, .invokevirtual 208, 3, [3, 164, 6, 0], []), (167, .return_, 1, [], []), (168, .aload_n 0, 1, [], []), (169, .iload_n 3, 1, [], []), (170, .iload_n 1, 1, [], []), (171, .aload_n 0, 1, [], []), (172, .getfield 9, 3, [10, 0], []), (175, .iload_n 2, 1, [], []), (176, .bipush 10, 2, [10], []), (178, .iadd, 1, [], []), (179, .iaload, 1, [], []), (180, .iload_n 1, 1, [], []), (181, .invokevirtual 198, 3, [5, 161, 6, 0], []), (184, .aload_n 0, 1, [], []), (185, .getfield 9, 3, [10, 0], []), (188, .iload_n 2, 1, [], []), (189, .iconst 4, 1, [4], []), (190, .iadd, 1, [], []), (191, .iconst 2, 1, [2], []), (192, .iastore, 1, [], []), (193, .return_, 1, [], []), (194, .aload_n 0, 1, [], []), (195, .iload_n 1, 1, [], []), (196, .invokevirtual 212, 3, [2, 165, 6, 0], []), (199, .return_, 1, [], []), (200, .aload_n 0, 1, [], []), (201, .iload_n 3, 1, [], []), (202, .iload_n 1, 1, [], []), (203, .iconst 2, 1, [2], []), (204, .invokevirtual 205, 3, [4, 163, 4, 1], []), (207, .ifCond .eq 11, 3, [218, 0], []), (210, .aload_n 0, 1, [], []), (211, .iload_n 1, 1, [], []), (212, .invokevirtual 215, 3, [2, 166, 8, 0], []), (215, .goto 9, 3, [224, 0], []), (218, .aload_n 0, 1, [], []), (219, .iload_n 1, 1, [], []), (220, .iconst 1, 1, [1], []), (221, .invokevirtual 208, 3, [3, 164, 6, 0], []), (224, .return_, 1, [], [])]
def k_X10_stepEnd : List mE := [(0, .iconst 0, 1, [0], []), (1, .istore_n 1, 1, [], []), (2, .iload_n 1, 1, [], [1, 1, 0, 0]), (3, .aload_n 0, 1, [], []), (4, .getfield 9, 3, [10, 0], []), (7, .iconst 0, 1, [0], []), (8, .iaload, 1, [], []), (9, .if_icmp .ge 202, 3, [211, 0], []), (12, .aload_n 0, 1, [], []), (13, .getfield 9, 3, [10, 0], []), (16, .sipush 135, 3, [135], []), (19, .iload_n 1, 1, [], []), (20, .iadd, 1, [], []), (21, .aload_n 0, 1, [], []), (22, .getfield 24, 3, [10, 10], []), (25, .iload_n 1, 1, [], []), (26, .iaload, 1, [], []), (27, .iastore, 1, [], []), (28, .aload_n 0, 1, [], []), (29, .getfield 9, 3, [10, 0], []), (32, .sipush 141, 3, [141], []), (35, .iload_n 1, 1, [], []), (36, .iadd, 1, [], []), (37, .aload_n 0, 1, [], []), (38, .getfield 27, 3, [10, 11], []), (41, .iload_n 1, 1, [], []), (42, .iaload, 1, [], []), (43, .iastore, 1, [], []), (44, .aload_n 0, 1, [], []), (45, .getfield 24, 3, [10, 10], []), (48, .iload_n 1, 1, [], []), (49, .iconst (-1), 1, [], []), (50, .iastore, 1, [], []), (51, .aload_n 0, 1, [], []), (52, .getfield 186, 3, [10, 12], []), (55, .iload_n 1, 1, [], []), (56, .invokestatic 174, 3, [2, 116, 2, 1], []), (59, .ifCond .ne 31, 3, [90, 0], []), (62, .aload_n 0, 1, [], []), (63, .iload_n 1, 1, [], []), (64, .iconst (-1), 1, [], []), (65, .invokevirtual 192, 3, [3, 159, 4, 1], []), (68, .ifCond .ne 22, 3, [90, 0], []), (71, .aload_n 0, 1, [], []), (72, .getfield 9, 3, [10, 0], []), (75, .sipush 1331, 3, [1331], []), (78, .iaload, 1, [], []), (79, .iload_n 1, 1, [], []), (80, .invokestatic 174, 3, [2, 116, 2, 1], []), (83, .ifCond .ne 7, 3, [90, 0], []), (86, .iconst 1, 1, [1], []), (87, .goto 4, 3, [91, 0], []), (90, .iconst 0, 1, [0], []), (91, .istore_n 2, 1, [], []), (92, .aload_n 0, 1, [], []), (93, .getfield 9, 3, [10, 0], []), (96, .bipush 123, 2, [123], []), (98, .iload_n 1, 1, [], []), (99, .iadd, 1, [], []), (100, .iload_n 2, 1, [], []), (101, .ifCond .eq 17, 3, [118, 0], []), (104, .aload_n 0, 1, [], []), (105, .getfield 9, 3, [10, 0], []), (108, .bipush 123, 2, [123], []), (110, .iload_n 1, 1, [], []), (111, .iadd, 1, [], []), (112, .iaload, 1, [], []), (113, .iconst 1, 1, [1], []), (114, .iadd, 1, [], []), (115, .goto 4, 3, [119, 0], []), (118, .iconst 0, 1, [0], []), (119, .iastore, 1, [], []), (120, .iconst 0, 1, [0], []), (121, .istore_n 3, 1, [], []), (122, .iload_n 3, 1, [], [1, 1, 0, 1]), (123, .iconst 4, 1, [4], []), (124, .if_icmp .ge 81, 3, [205, 0], []), (127, .aload_n 0, 1, [], []), (128, .getfield 9, 3, [10, 0], []), (131, .sipush 147, 3, [147], []), (134, .iload_n 1, 1, [], []), (135, .iload_n 3, 1, [], []), (136, .invokestatic 67, 3, [2, 125, 2, 1], []), (139, .iadd, 1, [], []), (140, .iaload, 1, [], []), (141, .ifCond .le 58, 3, [199, 0], []), (144, .aload_n 0, 1, [], []), (145, .getfield 9, 3, [10, 0], []), (148, .sipush 1155, 3, [1155], []), (151, .iload_n 1, 1, [], []), (152, .iload_n 3, 1, [], []), (153, .invokestatic 67, 3, [2, 125, 2, 1], []), (156, .iadd, 1, [], []), (157, .iaload, 1, [], []), (158, .ifCond .le 41, 3, [199, 0], []), (161, .aload_n 0, 1, [], []), (162, .getfield 9, 3, [10, 0], []), (165, .bipush 123, 2, [123], []), (167, .iload_n 1, 1, [], []), (168, .iadd, 1, [], []), (169, .iaload, 1, [], []), (170, .aload_n 0, 1, [], []), (171, .getfield 9, 3, [10, 0], []), (174, .iconst 5, 1, [5], []), (175, .iload_n 3, 1, [], []), (176, .iadd, 1, [], []), (177, .iaload, 1, [], []), (178, .if_icmp .le 21, 3, [199, 0], []), (181, .aload_n 0, 1, [], []), (182, .getfield 9, 3, [10, 0], []), (185, .sipush 1155, 3, [1155], []), (188, .iload_n 1, 1, [], []), (189, .iload_n 3, 1, [], []), (190, .invokestatic 67, 3, [2, 125, 2, 1], []), (193, .iadd, 1, [], []), (194, .dup2, 1, [], []), (195, .iaload, 1, [], []), (196, .iconst 1, 1, [1], []), (197, .isub, 1, [], []), (198, .iastore, 1, [], []), (199, .iinc 3 1, 3, [], []), (202, .goto (-80), 3, [122, 1, 1, 1, 0, 1], []), (205, .iinc 1 1, 3, [], []), (208, .goto (-206), 3, [2, 1, 1, 1, 0, 0], []), (211, .aload_n 0, 1, [], []), (212, .getfield 9, 3, [10, 0], []), (215, .iconst 1, 1, [1], []), (216, .dup2, 1, [], []), (217, .iaload, 1, [], []), (218, .iconst 1, 1, [1], []), (219, .iadd, 1, [], []), (220, .iastore, 1, [], []), (221, .return_, 1, [], [])]
def k_X10_stepHeld : List mE := [(0, .iconst 0, 1, [0], []), (1, .istore_n 1, 1, [], []), (2, .iload_n 1, 1, [], [1, 1]), (3, .aload_n 0, 1, [], []), (4, .getfield 9, 3, [10, 0], []), (7, .iconst 0, 1, [0], []), (8, .iaload, 1, [], []), (9, .if_icmp .ge 78, 3, [87, 0], []), (12, .aload_n 0, 1, [], []), (13, .iload_n 1, 1, [], []), (14, .invokevirtual 171, 3, [2, 149, 2, 1], []), (17, .ifCond .eq 64, 3, [81, 0], []), (20, .aload_n 0, 1, [], []), (21, .iload_n 1, 1, [], []), (22, .invokevirtual 218, 3, [2, 175, 4, 1], []), (25, .ifCond .ne 6, 3, [31, 0], []), (28, .goto 53, 3, [81, 0], []), (31, .aload_n 0, 1, [], []), (32, .getfield 9, 3, [10, 0], []), (35, .sipush 1402, 3, [1402], []), (38, .iconst 3, 1, [3], []), (39, .iload_n 1, 1, [], []), (40, .imul, 1, [], []), (41, .iadd, 1, [], []), (42, .aload_n 0, 1, [], []), (43, .getfield 9, 3, [10, 0], []), (46, .sipush 1331, 3, [1331], []), (49, .iaload, 1, [], []), (50, .iload_n 1, 1, [], []), (51, .invokestatic 174, 3, [2, 116, 2, 1], []), (54, .ifCond .eq 7, 3, [61, 0], []), (57, .iconst 0, 1, [0], []), (58, .goto 17, 3, [75, 0], []), (61, .aload_n 0, 1, [], []), (62, .iload_n 1, 1, [], []), (63, .iconst (-1), 1, [], []), (64, .invokevirtual 192, 3, [3, 159, 4, 1], []), (67, .ifCond .eq 7, 3, [74, 0], []), (70, .iconst 1, 1, [1], []), (71, .goto 4, 3, [75, 0], []), (74, .iconst 2, 1, [2], []), (75, .iadd, 1, [], []), (76, .dup2, 1, [], []), (77, .iaload, 1, [], []), (78, .iconst 1, 1, [1], []), (79, .iadd, 1, [], []), (80, .iastore, 1, [], []), (81, .iinc 1 1, 3, [], []), (84, .goto (-82), 3, [2, 1, 1, 1], []), (87, .return_, 1, [], [])]
def k_X10_slot : List mE := [(0, .aload_n 0, 1, [], []), (1, .invokevirtual 221, 3, [1, 157, 4, 0], []), (4, .aload_n 0, 1, [], []), (5, .invokevirtual 224, 3, [1, 158, 5, 0], []), (8, .aload_n 0, 1, [], []), (9, .invokevirtual 227, 3, [1, 169, 2, 0], []), (12, .iconst 0, 1, [0], []), (13, .istore_n 1, 1, [], []), (14, .iload_n 1, 1, [], [1, 1]), (15, .aload_n 0, 1, [], []), (16, .getfield 9, 3, [10, 0], []), (19, .iconst 0, 1, [0], []), (20, .iaload, 1, [], []), (21, .if_icmp .ge 29, 3, [50, 0], []), (24, .aload_n 0, 1, [], []), (25, .getfield 9, 3, [10, 0], []), (28, .iload_n 1, 1, [], []), (29, .invokestatic 117, 3, [1, 127, 1, 1], []), (32, .iconst 0, 1, [0], []), (33, .iadd, 1, [], []), (34, .iaload, 1, [], []), (35, .iconst 1, 1, [1], []), (36, .if_icmp .ne 8, 3, [44, 0], []), (39, .aload_n 0, 1, [], []), (40, .iload_n 1, 1, [], []), (41, .invokevirtual 230, 3, [2, 167, 4, 0], []), (44, .iinc 1 1, 3, [], []), (47, .goto (-33), 3, [14, 1, 1, 1], []), (50, .aload_n 0, 1, [], []), (51, .invokevirtual 233, 3, [1, 168, 4, 0], []), (54, .return_, 1, [], [])]
def k_X10_goSlots : List mE := [(0, .iconst 0, 1, [0], []), (1, .istore_n 2, 1, [], []), (2, .iload_n 2, 1, [], [1, 1, 1]), (3, .iload_n 1, 1, [], []), (4, .if_icmp .ge 13, 3, [17, 0], []), (7, .aload_n 0, 1, [], []), (8, .invokevirtual 236, 3, [1, 170, 2, 0], []), (11, .iinc 2 1, 3, [], []), (14, .goto (-12), 3, [2, 1, 1, 1, 1], []), (17, .return_, 1, [], [])]
def k_X10_slots : List mE := [(0, .aload_n 0, 1, [], []), (1, .iconst 0, 1, [0], []), (2, .putfield 52, 3, [10, 5], []), (5, .iload_n 1, 1, [], []), (6, .iconst 1, 1, [1], []), (7, .bipush 60, 2, [60], []), (9, .invokestatic 59, 3, [3, 115, 3, 1], []), (12, .ifCond .ne 5, 3, [17, 0], []), (15, .iconst (-1), 1, [], []), (16, .ireturn, 1, [], []), (17, .aload_n 0, 1, [], []), (18, .invokevirtual 108, 3, [1, 208, 2, 0], []), (21, .aload_n 0, 1, [], []), (22, .getfield 9, 3, [10, 0], []), (25, .sipush 1336, 3, [1336], []), (28, .iaload, 1, [], []), (29, .istore_n 2, 1, [], []), (30, .aload_n 0, 1, [], []), (31, .getfield 9, 3, [10, 0], []), (34, .sipush 1337, 3, [1337], []), (37, .iaload, 1, [], []), (38, .istore_n 3, 1, [], []), (39, .aload_n 0, 1, [], []), (40, .getfield 9, 3, [10, 0], []), (43, .sipush 1338, 3, [1338], []), (46, .iaload, 1, [], []), (47, .istore 4, 2, [], []), (49, .aload_n 0, 1, [], []), (50, .getfield 9, 3, [10, 0], []), (53, .sipush 1339, 3, [1339], []), (56, .iaload, 1, [], []), (57, .istore 5, 2, [], []), (59, .aload_n 0, 1, [], []), (60, .iload_n 1, 1, [], []), (61, .invokevirtual 239, 3, [2, 171, 3, 0], []), (64, .aload_n 0, 1, [], []), (65, .iconst 0, 1, [0], []), (66, .putfield 56, 3, [10, 4], []), (69, .aload_n 0, 1, [], []), (70, .aload_n 0, 1, [], []), (71, .getfield 9, 3, [10, 0], []), (74, .sipush 1337, 3, [1337], []), (77, .iaload, 1, [], []), (78, .iload_n 3, 1, [], []), (79, .isub, 1, [], []), (80, .i2l, 1, [], []), (81, .invokevirtual 242, 3, [2, 118, 3, 0], []), (84, .aload_n 0, 1, [], []), (85, .aload_n 0, 1, [], []), (86, .getfield 9, 3, [10, 0], []), (89, .sipush 1338, 3, [1338], []), (92, .iaload, 1, [], []), (93, .iload 4, 2, [], []), (95, .isub, 1, [], []), (96, .i2l, 1, [], []), (97, .invokevirtual 242, 3, [2, 118, 3, 0], []), (100, .aload_n 0, 1, [], []), (101, .aload_n 0, 1, [], []), (102, .getfield 9, 3, [10, 0], []), (105, .sipush 1339, 3, [1339], []), (108, .iaload, 1, [], []), (109, .iload 5, 2, [], []), (111, .isub, 1, [], []), (112, .i2l, 1, [], []), (113, .invokevirtual 242, 3, [2, 118, 3, 0], []), (116, .aload_n 0, 1, [], []), (117, .getfield 9, 3, [10, 0], []), (120, .sipush 1336, 3, [1336], []), (123, .iaload, 1, [], []), (124, .iload_n 2, 1, [], []), (125, .isub, 1, [], []), (126, .ireturn, 1, [], [])]
def k_X10_drawAll : List mE := [(0, .iconst 0, 1, [0], []), (1, .istore_n 1, 1, [], []), (2, .iconst 0, 1, [0], []), (3, .istore_n 2, 1, [], []), (4, .iload_n 2, 1, [], [1, 1, 1, 0]), (5, .aload_n 0, 1, [], []), (6, .getfield 9, 3, [10, 0], []), (9, .iconst 0, 1, [0], []), (10, .iaload, 1, [], []), (11, .if_icmp .ge 51, 3, [62, 0], []), (14, .iconst 0, 1, [0], []), (15, .istore_n 3, 1, [], []), (16, .iload_n 3, 1, [], [1, 1, 1, 1]), (17, .iconst 4, 1, [4], []), (18, .if_icmp .ge 38, 3, [56, 0], []), (21, .aload_n 0, 1, [], []), (22, .getfield 9, 3, [10, 0], []), (25, .sipush 147, 3, [147], []), (28, .iload_n 2, 1, [], []), (29, .iload_n 3, 1, [], []), (30, .invokestatic 67, 3, [2, 125, 2, 1], []), (33, .iadd, 1, [], []), (34, .iaload, 1, [], []), (35, .ifCond .ne 6, 3, [41, 0], []), (38, .goto 12, 3, [50, 0], []), (41, .aload_n 0, 1, [], []), (42, .iload_n 2, 1, [], []), (43, .iload_n 3, 1, [], []), (44, .invokevirtual 164, 3, [3, 152, 3, 0], []), (47, .iinc 1 1, 3, [], []), (50, .iinc 3 1, 3, [], []), (53, .goto (-37), 3, [16, 1, 1, 1, 1, 1], []), (56, .iinc 2 1, 3, [], []), (59, .goto (-55), 3, [4, 1, 1, 1, 1, 0], []), (62, .iload_n 1, 1, [], []), (63, .ireturn, 1, [], [])]
def k_X10_draws : List mE := [(0, .aload_n 0, 1, [], []), (1, .iconst 0, 1, [0], []), (2, .putfield 52, 3, [10, 5], []), (5, .aload_n 0, 1, [], []), (6, .invokevirtual 108, 3, [1, 208, 2, 0], []), (9, .aload_n 0, 1, [], []), (10, .invokevirtual 246, 3, [1, 173, 4, 1], []), (13, .ireturn, 1, [], [])]
def k_X10_waiting : List mE := [(0, .iconst 0, 1, [0], []), (1, .istore_n 2, 1, [], []), (2, .iconst 0, 1, [0], []), (3, .istore_n 3, 1, [], []), (4, .iload_n 3, 1, [], [1, 1, 1, 1]), (5, .iconst 4, 1, [4], []), (6, .if_icmp .ge 26, 3, [32, 0], []), (9, .iload_n 2, 1, [], []), (10, .aload_n 0, 1, [], []), (11, .getfield 9, 3, [10, 0], []), (14, .sipush 147, 3, [147], []), (17, .iload_n 1, 1, [], []), (18, .iload_n 3, 1, [], []), (19, .invokestatic 67, 3, [2, 125, 2, 1], []), (22, .iadd, 1, [], []), (23, .iaload, 1, [], []), (24, .iadd, 1, [], []), (25, .istore_n 2, 1, [], []), (26, .iinc 3 1, 3, [], []), (29, .goto (-25), 3, [4, 1, 1, 1, 1, 1], []), (32, .iload_n 2, 1, [], []), (33, .ireturn, 1, [], [])]
def k_X10_allWaiting : List mE := [(0, .iconst 0, 1, [0], []), (1, .istore_n 1, 1, [], []), (2, .iconst 0, 1, [0], []), (3, .istore_n 2, 1, [], []), (4, .iload_n 2, 1, [], [1, 1, 1]), (5, .aload_n 0, 1, [], []), (6, .getfield 9, 3, [10, 0], []), (9, .iconst 0, 1, [0], []), (10, .iaload, 1, [], []), (11, .if_icmp .ge 17, 3, [28, 0], []), (14, .iload_n 1, 1, [], []), (15, .aload_n 0, 1, [], []), (16, .iload_n 2, 1, [], []), (17, .invokevirtual 218, 3, [2, 175, 4, 1], []), (20, .iadd, 1, [], []), (21, .istore_n 1, 1, [], []), (22, .iinc 2 1, 3, [], []), (25, .goto (-21), 3, [4, 1, 1, 1, 1], []), (28, .iload_n 1, 1, [], []), (29, .ireturn, 1, [], [])]
def k_X10_heardBy : List mE := [(0, .iconst 0, 1, [0], []), (1, .istore_n 2, 1, [], []), (2, .iconst 0, 1, [0], []), (3, .istore_n 3, 1, [], []), (4, .iload_n 3, 1, [], [1, 1, 1, 1]), (5, .aload_n 0, 1, [], []), (6, .getfield 9, 3, [10, 0], []), (9, .iconst 0, 1, [0], []), (10, .iaload, 1, [], []), (11, .if_icmp .ge 28, 3, [39, 0], []), (14, .iload_n 2, 1, [], []), (15, .aload_n 0, 1, [], []), (16, .iload_n 1, 1, [], []), (17, .iload_n 3, 1, [], []), (18, .invokevirtual 127, 3, [3, 124, 3, 1], []), (21, .ifCond .eq 9, 3, [30, 0], []), (24, .iconst 1, 1, [1], []), (25, .iload_n 3, 1, [], []), (26, .ishl, 1, [], []), (27, .goto 4, 3, [31, 0], []), (30, .iconst 0, 1, [0], []), (31, .ior, 1, [], []), (32, .istore_n 2, 1, [], []), (33, .iinc 3 1, 3, [], []), (36, .goto (-32), 3, [4, 1, 1, 1, 1, 1], []), (39, .iload_n 2, 1, [], []), (40, .ireturn, 1, [], [])]
def k_X10_station : List mE := [(0, .aload_n 0, 1, [], []), (1, .iconst 0, 1, [0], []), (2, .putfield 52, 3, [10, 5], []), (5, .aload_n 0, 1, [], []), (6, .iload_n 1, 1, [], []), (7, .invokevirtual 139, 3, [2, 121, 2, 1], []), (10, .ifCond .ne 8, 3, [18, 0], []), (13, .aload_n 0, 1, [], []), (14, .invokevirtual 114, 3, [1, 117, 1, 1], []), (17, .ireturn, 1, [], []), (18, .iload_n 2, 1, [], []), (19, .tableswitch 130 0 6 #[41, 51, 62, 96, 107, 118, 124], 41, [149, 60, 70, 81, 115, 126, 137, 143], []), (60, .aload_n 0, 1, [], []), (61, .getfield 9, 3, [10, 0], []), (64, .bipush 123, 2, [123], []), (66, .iload_n 1, 1, [], []), (67, .iadd, 1, [], []), (68, .iaload, 1, [], []), (69, .ireturn, 1, [], []), (70, .aload_n 0, 1, [], []), (71, .getfield 9, 3, [10, 0], []), (74, .sipush 129, 3, [129], []), (77, .iload_n 1, 1, [], []), (78, .iadd, 1, [], []), (79, .iaload, 1, [], []), (80, .ireturn, 1, [], []), (81, .aload_n 0, 1, [], []), (82, .getfield 9, 3, [10, 0], []), (85, .iload_n 1, 1, [], []), (86, .invokestatic 117, 3, [1, 127, 1, 1], []), (89, .iconst 0, 1, [0], []), (90, .iadd, 1, [], []), (91, .iaload, 1, [], []), (92, .ifCond .ne 21, 3, [113, 0], []), (95, .aload_n 0, 1, [], []), (96, .getfield 9, 3, [10, 0], []), (99, .sipush 135, 3, [135], []), (102, .iload_n 1, 1, [], []), (103, .iadd, 1, [], []), (104, .iaload, 1, [], []), (105, .iconst (-1), 1, [], []), (106, .if_icmp .ne 7, 3, [113, 0], []), (109, .iconst 1, 1, [1], []), (110, .goto 4, 3, [114, 0], []), (113, .iconst 0, 1, [0], []), (114, .ireturn, 1, [], []), (115, .aload_n 0, 1, [], []), (116, .getfield 9, 3, [10, 0], []), (119, .sipush 135, 3, [135], []), (122, .iload_n 1, 1, [], []), (123, .iadd, 1, [], []), (124, .iaload, 1, [], []), (125, .ireturn, 1, [], []), (126, .aload_n 0, 1, [], []), (127, .getfield 9, 3, [10, 0], []), (130, .sipush 141, 3, [141], []), (133, .iload_n 1, 1, [], []), (134, .iadd, 1, [], []), (135, .iaload, 1, [], []), (136, .ireturn, 1, [], []), (137, .aload_n 0, 1, [], []), (138, .iload_n 1, 1, [], []), (139, .invokevirtual 249, 3, [2, 177, 4, 1], []), (142, .ireturn, 1, [], []), (143, .aload_n 0, 1, [], []), (144, .iload_n 1, 1, [], []), (145, .invokevirtual 218, 3, [2, 175, 4, 1], []), (148, .ireturn, 1, [], []), (149, .aload_n 0, 1, [], []), (150, .invokevirtual 114, 3, [1, 117, 1, 1], []), (153, .ireturn, 1, [], [])]
def k_X10_rank : List mE := [(0, .aload_n 0, 1, [], []), (1, .iconst 0, 1, [0], []), (2, .putfield 52, 3, [10, 5], []), (5, .aload_n 0, 1, [], []), (6, .iload_n 1, 1, [], []), (7, .invokevirtual 139, 3, [2, 121, 2, 1], []), (10, .ifCond .eq 10, 3, [20, 0], []), (13, .iload_n 2, 1, [], []), (14, .invokestatic 120, 3, [1, 122, 1, 1], []), (17, .ifCond .ne 8, 3, [25, 0], []), (20, .aload_n 0, 1, [], []), (21, .invokevirtual 114, 3, [1, 117, 1, 1], []), (24, .ireturn, 1, [], []), (25, .iload_n 3, 1, [], []), (26, .tableswitch 90 0 3 #[30, 45, 60, 75], 30, [116, 56, 71, 86, 101], []), (56, .aload_n 0, 1, [], []), (57, .getfield 9, 3, [10, 0], []), (60, .sipush 147, 3, [147], []), (63, .iload_n 1, 1, [], []), (64, .iload_n 2, 1, [], []), (65, .invokestatic 67, 3, [2, 125, 2, 1], []), (68, .iadd, 1, [], []), (69, .iaload, 1, [], []), (70, .ireturn, 1, [], []), (71, .aload_n 0, 1, [], []), (72, .getfield 9, 3, [10, 0], []), (75, .sipush 1155, 3, [1155], []), (78, .iload_n 1, 1, [], []), (79, .iload_n 2, 1, [], []), (80, .invokestatic 67, 3, [2, 125, 2, 1], []), (83, .iadd, 1, [], []), (84, .iaload, 1, [], []), (85, .ireturn, 1, [], []), (86, .aload_n 0, 1, [], []), (87, .getfield 9, 3, [10, 0], []), (90, .sipush 1131, 3, [1131], []), (93, .iload_n 1, 1, [], []), (94, .iload_n 2, 1, [], []), (95, .invokestatic 67, 3, [2, 125, 2, 1], []), (98, .iadd, 1, [], []), (99, .iaload, 1, [], []), (100, .ireturn, 1, [], []), (101, .aload_n 0, 1, [], []), (102, .iload_n 1, 1, [], []), (103, .iload_n 2, 1, [], []), (104, .invokevirtual 177, 3, [3, 150, 3, 1], []), (107, .ifCond .eq 7, 3, [114, 0], []), (110, .iconst 1, 1, [1], []), (111, .goto 4, 3, [115, 0], []), (114, .iconst 0, 1, [0], []), (115, .ireturn, 1, [], []), (116, .aload_n 0, 1, [], []), (117, .invokevirtual 114, 3, [1, 117, 1, 1], []), (120, .ireturn, 1, [], [])]
def k_X10_frame : List mE := [(0, .aload_n 0, 1, [], []), (1, .iconst 0, 1, [0], []), (2, .putfield 52, 3, [10, 5], []), (5, .aload_n 0, 1, [], []), (6, .iload_n 1, 1, [], []), (7, .invokevirtual 139, 3, [2, 121, 2, 1], []), (10, .ifCond .eq 10, 3, [20, 0], []), (13, .iload_n 2, 1, [], []), (14, .invokestatic 120, 3, [1, 122, 1, 1], []), (17, .ifCond .ne 8, 3, [25, 0], []), (20, .aload_n 0, 1, [], []), (21, .invokevirtual 114, 3, [1, 117, 1, 1], []), (24, .ireturn, 1, [], []), (25, .iload_n 3, 1, [], []), (26, .iconst 0, 1, [0], []), (27, .aload_n 0, 1, [], []), (28, .getfield 9, 3, [10, 0], []), (31, .sipush 147, 3, [147], []), (34, .iload_n 1, 1, [], []), (35, .iload_n 2, 1, [], []), (36, .invokestatic 67, 3, [2, 125, 2, 1], []), (39, .iadd, 1, [], []), (40, .iaload, 1, [], []), (41, .iconst 1, 1, [1], []), (42, .isub, 1, [], []), (43, .invokestatic 59, 3, [3, 115, 3, 1], []), (46, .ifCond .eq 30, 3, [76, 0], []), (49, .iload 4, 2, [], []), (51, .iconst 0, 1, [0], []), (52, .iconst 3, 1, [3], []), (53, .invokestatic 59, 3, [3, 115, 3, 1], []), (56, .ifCond .eq 20, 3, [76, 0], []), (59, .aload_n 0, 1, [], []), (60, .getfield 9, 3, [10, 0], []), (63, .iload_n 1, 1, [], []), (64, .iload_n 2, 1, [], []), (65, .iload_n 3, 1, [], []), (66, .invokestatic 135, 3, [3, 126, 3, 1], []), (69, .iload 4, 2, [], []), (71, .iadd, 1, [], []), (72, .iaload, 1, [], []), (73, .goto 7, 3, [80, 0], []), (76, .aload_n 0, 1, [], []), (77, .invokevirtual 114, 3, [1, 117, 1, 1], []), (80, .ireturn, 1, [], [])]
def k_X10_exchange : List mE := [(0, .aload_n 0, 1, [], []), (1, .iconst 0, 1, [0], []), (2, .putfield 52, 3, [10, 5], []), (5, .aload_n 0, 1, [], []), (6, .iload_n 1, 1, [], []), (7, .invokevirtual 139, 3, [2, 121, 2, 1], []), (10, .ifCond .eq 17, 3, [27, 0], []), (13, .aload_n 0, 1, [], []), (14, .getfield 9, 3, [10, 0], []), (17, .iload_n 1, 1, [], []), (18, .invokestatic 117, 3, [1, 127, 1, 1], []), (21, .iconst 0, 1, [0], []), (22, .iadd, 1, [], []), (23, .iaload, 1, [], []), (24, .ifCond .ne 5, 3, [29, 0], []), (27, .iconst (-1), 1, [], []), (28, .ireturn, 1, [], []), (29, .iload_n 1, 1, [], []), (30, .invokestatic 117, 3, [1, 127, 1, 1], []), (33, .istore_n 3, 1, [], []), (34, .iload_n 2, 1, [], []), (35, .tableswitch 118 0 6 #[41, 50, 59, 68, 74, 83, 108], 41, [153, 76, 85, 94, 103, 109, 118, 143], []), (76, .aload_n 0, 1, [], []), (77, .getfield 9, 3, [10, 0], []), (80, .iload_n 3, 1, [], []), (81, .iconst 1, 1, [1], []), (82, .iadd, 1, [], []), (83, .iaload, 1, [], []), (84, .ireturn, 1, [], []), (85, .aload_n 0, 1, [], []), (86, .getfield 9, 3, [10, 0], []), (89, .iload_n 3, 1, [], []), (90, .iconst 2, 1, [2], []), (91, .iadd, 1, [], []), (92, .iaload, 1, [], []), (93, .ireturn, 1, [], []), (94, .aload_n 0, 1, [], []), (95, .getfield 9, 3, [10, 0], []), (98, .iload_n 3, 1, [], []), (99, .iconst 3, 1, [3], []), (100, .iadd, 1, [], []), (101, .iaload, 1, [], []), (102, .ireturn, 1, [], []), (103, .aload_n 0, 1, [], []), (104, .iload_n 3, 1, [], []), (105, .invokevirtual 252, 3, [2, 182, 4, 1], []), (108, .ireturn, 1, [], []), (109, .aload_n 0, 1, [], []), (110, .getfield 9, 3, [10, 0], []), (113, .iload_n 3, 1, [], []), (114, .iconst 4, 1, [4], []), (115, .iadd, 1, [], []), (116, .iaload, 1, [], []), (117, .ireturn, 1, [], []), (118, .aload_n 0, 1, [], []), (119, .getfield 9, 3, [10, 0], []), (122, .iload_n 3, 1, [], []), (123, .iconst 4, 1, [4], []), (124, .iadd, 1, [], []), (125, .iaload, 1, [], []), (126, .iconst 2, 1, [2], []), (127, .if_icmp .ne 14, 3, [141, 0], []), (130, .aload_n 0, 1, [], []), (131, .getfield 9, 3, [10, 0], []), (134, .iload_n 3, 1, [], []), (135, .iconst 5, 1, [5], []), (136, .iadd, 1, [], []), (137, .iaload, 1, [], []), (138, .goto 4, 3, [142, 0], []), (141, .iconst 1, 1, [1], []), (142, .ireturn, 1, [], []), (143, .aload_n 0, 1, [], []), (144, .getfield 9, 3, [10, 0], []), (147, .iload_n 3, 1, [], []), (148, .bipush 6, 2, [6], []), (150, .iadd, 1, [], []), (151, .iaload, 1, [], []), (152, .ireturn, 1, [], []), (153, .iconst (-1), 1, [], []), (154, .ireturn, 1, [], [])]
def k_X10_placesOf : List mE := [(0, .iconst 0, 1, [0], []), (1, .istore_n 2, 1, [], []), (2, .iconst 0, 1, [0], []), (3, .istore_n 3, 1, [], []), (4, .iload_n 3, 1, [], [1, 1, 1, 1]), (5, .aload_n 0, 1, [], []), (6, .getfield 9, 3, [10, 0], []), (9, .iload_n 1, 1, [], []), (10, .iconst 3, 1, [3], []), (11, .iadd, 1, [], []), (12, .iaload, 1, [], []), (13, .if_icmp .ge 23, 3, [36, 0], []), (16, .iload_n 2, 1, [], []), (17, .aload_n 0, 1, [], []), (18, .getfield 9, 3, [10, 0], []), (21, .iload_n 1, 1, [], []), (22, .bipush 11, 2, [11], []), (24, .iadd, 1, [], []), (25, .iload_n 3, 1, [], []), (26, .iadd, 1, [], []), (27, .iaload, 1, [], []), (28, .iadd, 1, [], []), (29, .istore_n 2, 1, [], []), (30, .iinc 3 1, 3, [], []), (33, .goto (-29), 3, [4, 1, 1, 1, 1, 1], []), (36, .iload_n 2, 1, [], []), (37, .ireturn, 1, [], [])]
def k_X10_sent : List mE := [(0, .aload_n 0, 1, [], []), (1, .iconst 0, 1, [0], []), (2, .putfield 52, 3, [10, 5], []), (5, .aload_n 0, 1, [], []), (6, .getfield 9, 3, [10, 0], []), (9, .sipush 1332, 3, [1332], []), (12, .iaload, 1, [], []), (13, .ifCond .ne 6, 3, [19, 0], []), (16, .bipush (-2), 2, [], []), (18, .ireturn, 1, [], []), (19, .aload_n 0, 1, [], []), (20, .iconst 0, 1, [0], []), (21, .putfield 56, 3, [10, 4], []), (24, .aload_n 0, 1, [], []), (25, .aload_n 0, 1, [], []), (26, .getfield 9, 3, [10, 0], []), (29, .sipush 1330, 3, [1330], []), (32, .iaload, 1, [], []), (33, .i2l, 1, [], []), (34, .invokevirtual 242, 3, [2, 118, 3, 0], []), (37, .aload_n 0, 1, [], []), (38, .aload_n 0, 1, [], []), (39, .getfield 9, 3, [10, 0], []), (42, .sipush 1331, 3, [1331], []), (45, .iaload, 1, [], []), (46, .i2l, 1, [], []), (47, .invokevirtual 242, 3, [2, 118, 3, 0], []), (50, .aload_n 0, 1, [], []), (51, .getfield 9, 3, [10, 0], []), (54, .sipush 1329, 3, [1329], []), (57, .iaload, 1, [], []), (58, .ireturn, 1, [], [])]
def k_X10_spanOf : List mE := [(0, .aload_n 0, 1, [], []), (1, .iconst 0, 1, [0], []), (2, .putfield 52, 3, [10, 5], []), (5, .aload_n 0, 1, [], []), (6, .iload_n 1, 1, [], []), (7, .invokevirtual 139, 3, [2, 121, 2, 1], []), (10, .ifCond .ne 5, 3, [15, 0], []), (13, .iconst (-1), 1, [], []), (14, .ireturn, 1, [], []), (15, .aload_n 0, 1, [], []), (16, .getfield 9, 3, [10, 0], []), (19, .iconst 1, 1, [1], []), (20, .iaload, 1, [], []), (21, .aload_n 0, 1, [], []), (22, .getfield 9, 3, [10, 0], []), (25, .sipush 129, 3, [129], []), (28, .iload_n 1, 1, [], []), (29, .iadd, 1, [], []), (30, .iaload, 1, [], []), (31, .if_icmp .lt 6, 3, [37, 0], []), (34, .bipush (-2), 2, [], []), (36, .ireturn, 1, [], []), (37, .aload_n 0, 1, [], []), (38, .iconst 0, 1, [0], []), (39, .putfield 56, 3, [10, 4], []), (42, .aload_n 0, 1, [], []), (43, .aload_n 0, 1, [], []), (44, .getfield 9, 3, [10, 0], []), (47, .sipush 1426, 3, [1426], []), (50, .iload_n 1, 1, [], []), (51, .iadd, 1, [], []), (52, .iaload, 1, [], []), (53, .i2l, 1, [], []), (54, .invokevirtual 242, 3, [2, 118, 3, 0], []), (57, .aload_n 0, 1, [], []), (58, .aload_n 0, 1, [], []), (59, .getfield 9, 3, [10, 0], []), (62, .sipush 129, 3, [129], []), (65, .iload_n 1, 1, [], []), (66, .iadd, 1, [], []), (67, .iaload, 1, [], []), (68, .aload_n 0, 1, [], []), (69, .getfield 9, 3, [10, 0], []), (72, .iconst 1, 1, [1], []), (73, .iaload, 1, [], []), (74, .isub, 1, [], []), (75, .i2l, 1, [], []), (76, .invokevirtual 242, 3, [2, 118, 3, 0], []), (79, .aload_n 0, 1, [], []), (80, .getfield 9, 3, [10, 0], []), (83, .sipush 1420, 3, [1420], []), (86, .iload_n 1, 1, [], []), (87, .iadd, 1, [], []), (88, .iaload, 1, [], []), (89, .ireturn, 1, [], [])]
def k_X10_rate : List mE := [(0, .aload_n 0, 1, [], []), (1, .iconst 0, 1, [0], []), (2, .putfield 52, 3, [10, 5], []), (5, .aload_n 0, 1, [], []), (6, .iload_n 1, 1, [], []), (7, .invokevirtual 139, 3, [2, 121, 2, 1], []), (10, .ifCond .eq 16, 3, [26, 0], []), (13, .aload_n 0, 1, [], []), (14, .iload_n 2, 1, [], []), (15, .invokevirtual 139, 3, [2, 121, 2, 1], []), (18, .ifCond .eq 8, 3, [26, 0], []), (21, .iload_n 1, 1, [], []), (22, .iload_n 2, 1, [], []), (23, .if_icmp .ne 5, 3, [28, 0], []), (26, .iconst (-1), 1, [], []), (27, .ireturn, 1, [], []), (28, .aload_n 0, 1, [], []), (29, .iload_n 1, 1, [], []), (30, .iload_n 2, 1, [], []), (31, .invokevirtual 127, 3, [3, 124, 3, 1], []), (34, .ifCond .ne 6, 3, [40, 0], []), (37, .bipush (-2), 2, [], []), (39, .ireturn, 1, [], []), (40, .aload_n 0, 1, [], []), (41, .iconst 0, 1, [0], []), (42, .putfield 56, 3, [10, 4], []), (45, .aload_n 0, 1, [], []), (46, .aload_n 0, 1, [], []), (47, .getfield 9, 3, [10, 0], []), (50, .bipush 87, 2, [87], []), (52, .bipush 6, 2, [6], []), (54, .iload_n 1, 1, [], []), (55, .imul, 1, [], []), (56, .iadd, 1, [], []), (57, .iload_n 2, 1, [], []), (58, .iadd, 1, [], []), (59, .iaload, 1, [], []), (60, .i2l, 1, [], []), (61, .invokevirtual 242, 3, [2, 118, 3, 0], []), (64, .aload_n 0, 1, [], []), (65, .aload_n 0, 1, [], []), (66, .iload_n 1, 1, [], []), (67, .iload_n 2, 1, [], []), (68, .invokevirtual 63, 3, [3, 123, 3, 1], []), (71, .i2l, 1, [], []), (72, .invokevirtual 242, 3, [2, 118, 3, 0], []), (75, .aload_n 0, 1, [], []), (76, .getfield 9, 3, [10, 0], []), (79, .bipush 51, 2, [51], []), (81, .bipush 6, 2, [6], []), (83, .iload_n 1, 1, [], []), (84, .imul, 1, [], []), (85, .iadd, 1, [], []), (86, .iload_n 2, 1, [], []), (87, .iadd, 1, [], []), (88, .iaload, 1, [], []), (89, .ireturn, 1, [], [])]
def k_X10_hidden : List mE := [(0, .aload_n 0, 1, [], []), (1, .iconst 0, 1, [0], []), (2, .putfield 52, 3, [10, 5], []), (5, .aload_n 0, 1, [], []), (6, .iconst 0, 1, [0], []), (7, .putfield 56, 3, [10, 4], []), (10, .iconst 0, 1, [0], []), (11, .istore_n 1, 1, [], []), (12, .iload_n 1, 1, [], [1, 1, 0]), (13, .aload_n 0, 1, [], []), (14, .getfield 9, 3, [10, 0], []), (17, .iconst 0, 1, [0], []), (18, .iaload, 1, [], []), (19, .if_icmp .ge 63, 3, [82, 0], []), (22, .iload_n 1, 1, [], []), (23, .iconst 1, 1, [1], []), (24, .iadd, 1, [], []), (25, .istore_n 2, 1, [], []), (26, .iload_n 2, 1, [], [1, 1, 1]), (27, .aload_n 0, 1, [], []), (28, .getfield 9, 3, [10, 0], []), (31, .iconst 0, 1, [0], []), (32, .iaload, 1, [], []), (33, .if_icmp .ge 43, 3, [76, 0], []), (36, .aload_n 0, 1, [], []), (37, .iload_n 1, 1, [], []), (38, .iload_n 2, 1, [], []), (39, .invokevirtual 127, 3, [3, 124, 3, 1], []), (42, .ifCond .ne 28, 3, [70, 0], []), (45, .aload_n 0, 1, [], []), (46, .iload_n 1, 1, [], []), (47, .invokevirtual 249, 3, [2, 177, 4, 1], []), (50, .aload_n 0, 1, [], []), (51, .iload_n 2, 1, [], []), (52, .invokevirtual 249, 3, [2, 177, 4, 1], []), (55, .iand, 1, [], []), (56, .ifCond .eq 14, 3, [70, 0], []), (59, .aload_n 0, 1, [], []), (60, .bipush 6, 2, [6], []), (62, .iload_n 1, 1, [], []), (63, .imul, 1, [], []), (64, .iload_n 2, 1, [], []), (65, .iadd, 1, [], []), (66, .i2l, 1, [], []), (67, .invokevirtual 242, 3, [2, 118, 3, 0], []), (70, .iinc 2 1, 3, [], []), (73, .goto (-47), 3, [26, 1, 1, 1, 1], []), (76, .iinc 1 1, 3, [], []), (79, .goto (-67), 3, [12, 1, 1, 1, 0], []), (82, .aload_n 0, 1, [], []), (83, .getfield 56, 3, [10, 4], []), (86, .ireturn, 1, [], [])]
def k_X10_tally : List mE := [(0, .aload_n 0, 1, [], []), (1, .iconst 0, 1, [0], []), (2, .putfield 52, 3, [10, 5], []), (5, .aload_n 0, 1, [], []), (6, .iload_n 1, 1, [], []), (7, .invokevirtual 139, 3, [2, 121, 2, 1], []), (10, .ifCond .eq 31, 3, [41, 0], []), (13, .iload_n 2, 1, [], []), (14, .iconst 0, 1, [0], []), (15, .bipush 8, 2, [8], []), (17, .invokestatic 59, 3, [3, 115, 3, 1], []), (20, .ifCond .eq 21, 3, [41, 0], []), (23, .aload_n 0, 1, [], []), (24, .getfield 9, 3, [10, 0], []), (27, .sipush 1275, 3, [1275], []), (30, .bipush 9, 2, [9], []), (32, .iload_n 1, 1, [], []), (33, .imul, 1, [], []), (34, .iadd, 1, [], []), (35, .iload_n 2, 1, [], []), (36, .iadd, 1, [], []), (37, .iaload, 1, [], []), (38, .goto 7, 3, [45, 0], []), (41, .aload_n 0, 1, [], []), (42, .invokevirtual 114, 3, [1, 117, 1, 1], []), (45, .ireturn, 1, [], [])]
def k_X10_held : List mE := [(0, .aload_n 0, 1, [], []), (1, .iconst 0, 1, [0], []), (2, .putfield 52, 3, [10, 5], []), (5, .aload_n 0, 1, [], []), (6, .iload_n 1, 1, [], []), (7, .invokevirtual 139, 3, [2, 121, 2, 1], []), (10, .ifCond .ne 5, 3, [15, 0], []), (13, .iconst (-1), 1, [], []), (14, .ireturn, 1, [], []), (15, .iconst 0, 1, [0], []), (16, .istore_n 2, 1, [], []), (17, .aload_n 0, 1, [], []), (18, .iconst 0, 1, [0], []), (19, .putfield 56, 3, [10, 4], []), (22, .iconst 0, 1, [0], []), (23, .istore_n 3, 1, [], []), (24, .iload_n 3, 1, [], [1, 1, 1, 1]), (25, .iconst 3, 1, [3], []), (26, .if_icmp .ge 45, 3, [71, 0], []), (29, .aload_n 0, 1, [], []), (30, .aload_n 0, 1, [], []), (31, .getfield 9, 3, [10, 0], []), (34, .sipush 1402, 3, [1402], []), (37, .iconst 3, 1, [3], []), (38, .iload_n 1, 1, [], []), (39, .imul, 1, [], []), (40, .iadd, 1, [], []), (41, .iload_n 3, 1, [], []), (42, .iadd, 1, [], []), (43, .iaload, 1, [], []), (44, .i2l, 1, [], []), (45, .invokevirtual 242, 3, [2, 118, 3, 0], []), (48, .iload_n 2, 1, [], []), (49, .aload_n 0, 1, [], []), (50, .getfield 9, 3, [10, 0], []), (53, .sipush 1402, 3, [1402], []), (56, .iconst 3, 1, [3], []), (57, .iload_n 1, 1, [], []), (58, .imul, 1, [], []), (59, .iadd, 1, [], []), (60, .iload_n 3, 1, [], []), (61, .iadd, 1, [], []), (62, .iaload, 1, [], []), (63, .iadd, 1, [], []), (64, .istore_n 2, 1, [], []), (65, .iinc 3 1, 3, [], []), (68, .goto (-44), 3, [24, 1, 1, 1, 1, 1], []), (71, .iload_n 2, 1, [], []), (72, .ireturn, 1, [], [])]
def k_X10_why : List mE := [(0, .aload_n 0, 1, [], []), (1, .iconst 0, 1, [0], []), (2, .putfield 52, 3, [10, 5], []), (5, .aload_n 0, 1, [], []), (6, .iload_n 1, 1, [], []), (7, .invokevirtual 139, 3, [2, 121, 2, 1], []), (10, .ifCond .ne 5, 3, [15, 0], []), (13, .iconst (-1), 1, [], []), (14, .ireturn, 1, [], []), (15, .aload_n 0, 1, [], []), (16, .getfield 9, 3, [10, 0], []), (19, .sipush 1342, 3, [1342], []), (22, .iconst 3, 1, [3], []), (23, .iload_n 1, 1, [], []), (24, .imul, 1, [], []), (25, .iadd, 1, [], []), (26, .iaload, 1, [], []), (27, .ifCond .ne 6, 3, [33, 0], []), (30, .bipush (-2), 2, [], []), (32, .ireturn, 1, [], []), (33, .aload_n 0, 1, [], []), (34, .iconst 0, 1, [0], []), (35, .putfield 56, 3, [10, 4], []), (38, .aload_n 0, 1, [], []), (39, .aload_n 0, 1, [], []), (40, .getfield 9, 3, [10, 0], []), (43, .sipush 1342, 3, [1342], []), (46, .iconst 3, 1, [3], []), (47, .iload_n 1, 1, [], []), (48, .imul, 1, [], []), (49, .iadd, 1, [], []), (50, .iconst 1, 1, [1], []), (51, .iadd, 1, [], []), (52, .iaload, 1, [], []), (53, .i2l, 1, [], []), (54, .invokevirtual 242, 3, [2, 118, 3, 0], []), (57, .aload_n 0, 1, [], []), (58, .aload_n 0, 1, [], []), (59, .getfield 9, 3, [10, 0], []), (62, .sipush 1342, 3, [1342], []), (65, .iconst 3, 1, [3], []), (66, .iload_n 1, 1, [], []), (67, .imul, 1, [], []), (68, .iadd, 1, [], []), (69, .iconst 2, 1, [2], []), (70, .iadd, 1, [], []), (71, .iaload, 1, [], []), (72, .i2l, 1, [], []), (73, .invokevirtual 242, 3, [2, 118, 3, 0], []), (76, .aload_n 0, 1, [], []), (77, .getfield 9, 3, [10, 0], []), (80, .sipush 1342, 3, [1342], []), (83, .iconst 3, 1, [3], []), (84, .iload_n 1, 1, [], []), (85, .imul, 1, [], []), (86, .iadd, 1, [], []), (87, .iaload, 1, [], []), (88, .ireturn, 1, [], [])]
def k_X10_spoilt : List mE := [(0, .aload_n 0, 1, [], []), (1, .iconst 0, 1, [0], []), (2, .putfield 52, 3, [10, 5], []), (5, .aload_n 0, 1, [], []), (6, .iload_n 1, 1, [], []), (7, .invokevirtual 139, 3, [2, 121, 2, 1], []), (10, .ifCond .eq 16, 3, [26, 0], []), (13, .aload_n 0, 1, [], []), (14, .iload_n 2, 1, [], []), (15, .invokevirtual 139, 3, [2, 121, 2, 1], []), (18, .ifCond .eq 8, 3, [26, 0], []), (21, .iload_n 1, 1, [], []), (22, .iload_n 2, 1, [], []), (23, .if_icmp .ne 5, 3, [28, 0], []), (26, .iconst (-1), 1, [], []), (27, .ireturn, 1, [], []), (28, .aload_n 0, 1, [], []), (29, .iconst 0, 1, [0], []), (30, .putfield 56, 3, [10, 4], []), (33, .aload_n 0, 1, [], []), (34, .aload_n 0, 1, [], []), (35, .getfield 9, 3, [10, 0], []), (38, .sipush 1396, 3, [1396], []), (41, .iload_n 1, 1, [], []), (42, .iadd, 1, [], []), (43, .iaload, 1, [], []), (44, .i2l, 1, [], []), (45, .invokevirtual 242, 3, [2, 118, 3, 0], []), (48, .aload_n 0, 1, [], []), (49, .getfield 9, 3, [10, 0], []), (52, .sipush 1360, 3, [1360], []), (55, .bipush 6, 2, [6], []), (57, .iload_n 1, 1, [], []), (58, .imul, 1, [], []), (59, .iadd, 1, [], []), (60, .iload_n 2, 1, [], []), (61, .iadd, 1, [], []), (62, .iaload, 1, [], []), (63, .ireturn, 1, [], [])]
def k_X10_even : List mE := [(0, .aload_n 0, 1, [], []), (1, .iconst 0, 1, [0], []), (2, .putfield 52, 3, [10, 5], []), (5, .lconst 0, 1, [0], []), (6, .lstore_n 1, 1, [], []), (7, .lconst 0, 1, [0], []), (8, .lstore_n 3, 1, [], []), (9, .iconst 0, 1, [0], []), (10, .istore 5, 2, [], []), (12, .iload 5, 2, [], [1, 1, 0, 1, 0, 1, 0, 0]), (14, .aload_n 0, 1, [], []), (15, .getfield 9, 3, [10, 0], []), (18, .iconst 0, 1, [0], []), (19, .iaload, 1, [], []), (20, .if_icmp .ge 41, 3, [61, 0], []), (23, .aload_n 0, 1, [], []), (24, .getfield 9, 3, [10, 0], []), (27, .sipush 1275, 3, [1275], []), (30, .bipush 9, 2, [9], []), (32, .iload 5, 2, [], []), (34, .imul, 1, [], []), (35, .iadd, 1, [], []), (36, .iconst 1, 1, [1], []), (37, .iadd, 1, [], []), (38, .iaload, 1, [], []), (39, .i2l, 1, [], []), (40, .lstore 6, 2, [], []), (42, .lload_n 1, 1, [], []), (43, .lload 6, 2, [], []), (45, .ladd, 1, [], []), (46, .lstore_n 1, 1, [], []), (47, .lload_n 3, 1, [], []), (48, .lload 6, 2, [], []), (50, .lload 6, 2, [], []), (52, .lmul, 1, [], []), (53, .ladd, 1, [], []), (54, .lstore_n 3, 1, [], []), (55, .iinc 5 1, 3, [], []), (58, .goto (-46), 3, [12, 1, 1, 1, 0, 1, 0, 1, 0, 0], []), (61, .lload_n 1, 1, [], []), (62, .lconst 0, 1, [0], []), (63, .lcmp, 1, [], []), (64, .ifCond .ne 6, 3, [70, 0], []), (67, .bipush (-2), 2, [], []), (69, .ireturn, 1, [], []), (70, .lload_n 1, 1, [], []), (71, .lload_n 1, 1, [], []), (72, .lmul, 1, [], []), (73, .aload_n 0, 1, [], []), (74, .getfield 9, 3, [10, 0], []), (77, .iconst 0, 1, [0], []), (78, .iaload, 1, [], []), (79, .i2l, 1, [], []), (80, .lload_n 3, 1, [], []), (81, .lmul, 1, [], []), (82, .invokestatic 255, 3, [2, 120, 10, 2], []), (85, .lstore 5, 2, [], []), (87, .aload_n 0, 1, [], []), (88, .iconst 0, 1, [0], []), (89, .putfield 56, 3, [10, 4], []), (92, .aload_n 0, 1, [], []), (93, .lload_n 1, 1, [], []), (94, .lload_n 1, 1, [], []), (95, .lmul, 1, [], []), (96, .lload 5, 2, [], []), (98, .ldiv, 1, [], []), (99, .invokevirtual 242, 3, [2, 118, 3, 0], []), (102, .aload_n 0, 1, [], []), (103, .aload_n 0, 1, [], []), (104, .getfield 9, 3, [10, 0], []), (107, .iconst 0, 1, [0], []), (108, .iaload, 1, [], []), (109, .i2l, 1, [], []), (110, .lload_n 3, 1, [], []), (111, .lmul, 1, [], []), (112, .lload 5, 2, [], []), (114, .ldiv, 1, [], []), (115, .invokevirtual 242, 3, [2, 118, 3, 0], []), (118, .iconst 0, 1, [0], []), (119, .ireturn, 1, [], [])]
def k_X10_busy : List mE := [(0, .aload_n 0, 1, [], []), (1, .iconst 0, 1, [0], []), (2, .putfield 52, 3, [10, 5], []), (5, .aload_n 0, 1, [], []), (6, .iconst 0, 1, [0], []), (7, .putfield 56, 3, [10, 4], []), (10, .aload_n 0, 1, [], []), (11, .aload_n 0, 1, [], []), (12, .getfield 9, 3, [10, 0], []), (15, .sipush 1334, 3, [1334], []), (18, .iaload, 1, [], []), (19, .i2l, 1, [], []), (20, .invokevirtual 242, 3, [2, 118, 3, 0], []), (23, .aload_n 0, 1, [], []), (24, .aload_n 0, 1, [], []), (25, .getfield 9, 3, [10, 0], []), (28, .sipush 1335, 3, [1335], []), (31, .iaload, 1, [], []), (32, .i2l, 1, [], []), (33, .invokevirtual 242, 3, [2, 118, 3, 0], []), (36, .aload_n 0, 1, [], []), (37, .getfield 9, 3, [10, 0], []), (40, .sipush 1333, 3, [1333], []), (43, .iaload, 1, [], []), (44, .ireturn, 1, [], [])]
def k_X10_power : List mE := [(0, .iconst 1, 1, [1], []), (1, .istore_n 2, 1, [], []), (2, .iconst 0, 1, [0], []), (3, .istore_n 3, 1, [], []), (4, .iload_n 3, 1, [], [1, 1, 1, 1]), (5, .iload_n 1, 1, [], []), (6, .if_icmp .ge 13, 3, [19, 0], []), (9, .iload_n 2, 1, [], []), (10, .iload_n 0, 1, [], []), (11, .imul, 1, [], []), (12, .istore_n 2, 1, [], []), (13, .iinc 3 1, 3, [], []), (16, .goto (-12), 3, [4, 1, 1, 1, 1, 1], []), (19, .iload_n 2, 1, [], []), (20, .ireturn, 1, [], [])]
def k_X10_waysAlone : List mE := [(0, .iconst 0, 1, [0], []), (1, .istore_n 2, 1, [], []), (2, .iconst 0, 1, [0], []), (3, .istore_n 3, 1, [], []), (4, .iload_n 3, 1, [], [1, 1, 1, 1]), (5, .iload_n 1, 1, [], []), (6, .if_icmp .gt 21, 3, [27, 0], []), (9, .iload_n 2, 1, [], []), (10, .iload_n 1, 1, [], []), (11, .iload_n 3, 1, [], []), (12, .isub, 1, [], []), (13, .iload_n 0, 1, [], []), (14, .iconst 1, 1, [1], []), (15, .isub, 1, [], []), (16, .invokestatic 259, 3, [2, 193, 4, 1], []), (19, .iadd, 1, [], []), (20, .istore_n 2, 1, [], []), (21, .iinc 3 1, 3, [], []), (24, .goto (-20), 3, [4, 1, 1, 1, 1, 1], []), (27, .iload_n 0, 1, [], []), (28, .iload_n 2, 1, [], []), (29, .imul, 1, [], []), (30, .ireturn, 1, [], [])]
def k_X10_odds : List mE := [(0, .aload_n 0, 1, [], []), (1, .iconst 0, 1, [0], []), (2, .putfield 52, 3, [10, 5], []), (5, .iload_n 1, 1, [], []), (6, .iconst 1, 1, [1], []), (7, .iconst 5, 1, [5], []), (8, .invokestatic 59, 3, [3, 115, 3, 1], []), (11, .ifCond .eq 13, 3, [24, 0], []), (14, .iload_n 2, 1, [], []), (15, .iconst 0, 1, [0], []), (16, .bipush 31, 2, [31], []), (18, .invokestatic 59, 3, [3, 115, 3, 1], []), (21, .ifCond .ne 5, 3, [26, 0], []), (24, .iconst (-1), 1, [], []), (25, .ireturn, 1, [], []), (26, .iload_n 1, 1, [], []), (27, .iload_n 2, 1, [], []), (28, .invokestatic 262, 3, [2, 194, 4, 1], []), (31, .istore_n 3, 1, [], []), (32, .iload_n 2, 1, [], []), (33, .iconst 1, 1, [1], []), (34, .iadd, 1, [], []), (35, .iload_n 1, 1, [], []), (36, .invokestatic 259, 3, [2, 193, 4, 1], []), (39, .istore 4, 2, [], []), (41, .iload_n 3, 1, [], []), (42, .iload 4, 2, [], []), (44, .invokestatic 265, 3, [2, 119, 5, 1], []), (47, .istore 5, 2, [], []), (49, .aload_n 0, 1, [], []), (50, .iconst 0, 1, [0], []), (51, .putfield 56, 3, [10, 4], []), (54, .aload_n 0, 1, [], []), (55, .iload_n 3, 1, [], []), (56, .iload 5, 2, [], []), (58, .idiv, 1, [], []), (59, .i2l, 1, [], []), (60, .invokevirtual 242, 3, [2, 118, 3, 0], []), (63, .aload_n 0, 1, [], []), (64, .iload 4, 2, [], []), (66, .iload 5, 2, [], []), (68, .idiv, 1, [], []), (69, .i2l, 1, [], []), (70, .invokevirtual 242, 3, [2, 118, 3, 0], []), (73, .iconst 0, 1, [0], []), (74, .ireturn, 1, [], [])]
def k_X10_window : List mE := [(0, .aload_n 0, 1, [], []), (1, .iconst 0, 1, [0], []), (2, .putfield 52, 3, [10, 5], []), (5, .iload_n 1, 1, [], []), (6, .iconst 1, 1, [1], []), (7, .iconst 5, 1, [5], []), (8, .invokestatic 59, 3, [3, 115, 3, 1], []), (11, .ifCond .eq 13, 3, [24, 0], []), (14, .iload_n 2, 1, [], []), (15, .iconst 0, 1, [0], []), (16, .bipush 100, 2, [100], []), (18, .invokestatic 59, 3, [3, 115, 3, 1], []), (21, .ifCond .ne 5, 3, [26, 0], []), (24, .iconst (-1), 1, [], []), (25, .ireturn, 1, [], []), (26, .iconst 0, 1, [0], []), (27, .istore_n 3, 1, [], []), (28, .iload_n 3, 1, [], [0, 1, 1, 1]), (29, .bipush 31, 2, [31], []), (31, .if_icmp .gt 36, 3, [67, 0], []), (34, .ldc2_w 268, 3, [100], []), (37, .iload_n 1, 1, [], []), (38, .iload_n 3, 1, [], []), (39, .invokestatic 262, 3, [2, 194, 4, 1], []), (42, .i2l, 1, [], []), (43, .lmul, 1, [], []), (44, .iload_n 2, 1, [], []), (45, .i2l, 1, [], []), (46, .iload_n 3, 1, [], []), (47, .iconst 1, 1, [1], []), (48, .iadd, 1, [], []), (49, .iload_n 1, 1, [], []), (50, .invokestatic 259, 3, [2, 193, 4, 1], []), (53, .i2l, 1, [], []), (54, .lmul, 1, [], []), (55, .lcmp, 1, [], []), (56, .ifCond .lt 5, 3, [61, 0], []), (59, .iload_n 3, 1, [], []), (60, .ireturn, 1, [], []), (61, .iinc 3 1, 3, [], []), (64, .goto (-36), 3, [28, 1, 0, 1, 1, 1], []), (67, .bipush (-2), 2, [], []), (69, .ireturn, 1, [], [])]
def k_X10_layAside : List mE := [(0, .iconst 0, 1, [0], []), (1, .istore_n 1, 1, [], []), (2, .iload_n 1, 1, [], [1, 1]), (3, .sipush 1432, 3, [1432], []), (6, .if_icmp .ge 21, 3, [27, 0], []), (9, .aload_n 0, 1, [], []), (10, .getfield 30, 3, [10, 13], []), (13, .iload_n 1, 1, [], []), (14, .aload_n 0, 1, [], []), (15, .getfield 9, 3, [10, 0], []), (18, .iload_n 1, 1, [], []), (19, .iaload, 1, [], []), (20, .iastore, 1, [], []), (21, .iinc 1 1, 3, [], []), (24, .goto (-22), 3, [2, 1, 1, 1], []), (27, .return_, 1, [], [])]
def k_X10_comesBack : List mE := [(0, .iconst 0, 1, [0], []), (1, .istore_n 1, 1, [], []), (2, .iload_n 1, 1, [], [1, 1]), (3, .sipush 1432, 3, [1432], []), (6, .if_icmp .ge 21, 3, [27, 0], []), (9, .aload_n 0, 1, [], []), (10, .getfield 9, 3, [10, 0], []), (13, .iload_n 1, 1, [], []), (14, .aload_n 0, 1, [], []), (15, .getfield 30, 3, [10, 13], []), (18, .iload_n 1, 1, [], []), (19, .iaload, 1, [], []), (20, .iastore, 1, [], []), (21, .iinc 1 1, 3, [], []), (24, .goto (-22), 3, [2, 1, 1, 1], []), (27, .return_, 1, [], [])]
def k_X10_ahead : List mE := [(0, .aload_n 0, 1, [], []), (1, .iconst 0, 1, [0], []), (2, .putfield 52, 3, [10, 5], []), (5, .iload_n 1, 1, [], []), (6, .iconst 1, 1, [1], []), (7, .bipush 60, 2, [60], []), (9, .invokestatic 59, 3, [3, 115, 3, 1], []), (12, .ifCond .eq 12, 3, [24, 0], []), (15, .iload_n 2, 1, [], []), (16, .iconst 0, 1, [0], []), (17, .iconst 4, 1, [4], []), (18, .invokestatic 59, 3, [3, 115, 3, 1], []), (21, .ifCond .ne 5, 3, [26, 0], []), (24, .iconst (-1), 1, [], []), (25, .ireturn, 1, [], []), (26, .aload_n 0, 1, [], []), (27, .invokevirtual 270, 3, [1, 197, 2, 0], []), (30, .aload_n 0, 1, [], []), (31, .iload_n 1, 1, [], []), (32, .invokevirtual 239, 3, [2, 171, 3, 0], []), (35, .iload_n 2, 1, [], []), (36, .ifCond .ne 23, 3, [59, 0], []), (39, .aload_n 0, 1, [], []), (40, .getfield 9, 3, [10, 0], []), (43, .sipush 1336, 3, [1336], []), (46, .iaload, 1, [], []), (47, .aload_n 0, 1, [], []), (48, .getfield 30, 3, [10, 13], []), (51, .sipush 1336, 3, [1336], []), (54, .iaload, 1, [], []), (55, .isub, 1, [], []), (56, .goto 73, 3, [129, 0], []), (59, .iload_n 2, 1, [], []), (60, .iconst 1, 1, [1], []), (61, .if_icmp .ne 23, 3, [84, 0], []), (64, .aload_n 0, 1, [], []), (65, .getfield 9, 3, [10, 0], []), (68, .sipush 1337, 3, [1337], []), (71, .iaload, 1, [], []), (72, .aload_n 0, 1, [], []), (73, .getfield 30, 3, [10, 13], []), (76, .sipush 1337, 3, [1337], []), (79, .iaload, 1, [], []), (80, .isub, 1, [], []), (81, .goto 48, 3, [129, 0], []), (84, .iload_n 2, 1, [], []), (85, .iconst 2, 1, [2], []), (86, .if_icmp .ne 23, 3, [109, 0], []), (89, .aload_n 0, 1, [], []), (90, .getfield 9, 3, [10, 0], []), (93, .sipush 1338, 3, [1338], []), (96, .iaload, 1, [], []), (97, .aload_n 0, 1, [], []), (98, .getfield 30, 3, [10, 13], []), (101, .sipush 1338, 3, [1338], []), (104, .iaload, 1, [], []), (105, .isub, 1, [], []), (106, .goto 23, 3, [129, 0], []), (109, .iload_n 2, 1, [], []), (110, .iconst 3, 1, [3], []), (111, .if_icmp .ne 10, 3, [121, 0], []), (114, .aload_n 0, 1, [], []), (115, .invokevirtual 273, 3, [1, 176, 3, 1], []), (118, .goto 11, 3, [129, 0], []), (121, .aload_n 0, 1, [], []), (122, .getfield 9, 3, [10, 0], []), (125, .sipush 1329, 3, [1329], []), (128, .iaload, 1, [], []), (129, .istore_n 3, 1, [], []), (130, .aload_n 0, 1, [], []), (131, .invokevirtual 276, 3, [1, 198, 2, 0], []), (134, .iload_n 3, 1, [], []), (135, .ireturn, 1, [], [])]
def k_X10_isQuiet : List mE := [(0, .aload_n 0, 1, [], []), (1, .invokevirtual 273, 3, [1, 176, 3, 1], []), (4, .ifCond .ne 14, 3, [18, 0], []), (7, .aload_n 0, 1, [], []), (8, .invokevirtual 124, 3, [1, 143, 2, 1], []), (11, .ifCond .ne 7, 3, [18, 0], []), (14, .iconst 1, 1, [1], []), (15, .goto 4, 3, [19, 0], []), (18, .iconst 0, 1, [0], []), (19, .ireturn, 1, [1], [])]
def k_X10_quiet : List mE := [(0, .aload_n 0, 1, [], []), (1, .iconst 0, 1, [0], []), (2, .putfield 52, 3, [10, 5], []), (5, .aload_n 0, 1, [], []), (6, .invokevirtual 270, 3, [1, 197, 2, 0], []), (9, .iconst 0, 1, [0], []), (10, .istore_n 1, 1, [], []), (11, .iload_n 1, 1, [], [1, 1, 0, 0]), (12, .bipush 99, 2, [99], []), (14, .if_icmp .ge 20, 3, [34, 0], []), (17, .aload_n 0, 1, [], []), (18, .invokevirtual 279, 3, [1, 200, 1, 1], []), (21, .ifCond .ne 13, 3, [34, 0], []), (24, .aload_n 0, 1, [], []), (25, .invokevirtual 236, 3, [1, 170, 2, 0], []), (28, .iinc 1 1, 3, [], []), (31, .goto (-20), 3, [11, 1, 1, 1, 0, 0], []), (34, .aload_n 0, 1, [], []), (35, .invokevirtual 279, 3, [1, 200, 1, 1], []), (38, .istore_n 2, 1, [], []), (39, .aload_n 0, 1, [], []), (40, .getfield 9, 3, [10, 0], []), (43, .sipush 1336, 3, [1336], []), (46, .iaload, 1, [], []), (47, .aload_n 0, 1, [], []), (48, .getfield 30, 3, [10, 13], []), (51, .sipush 1336, 3, [1336], []), (54, .iaload, 1, [], []), (55, .isub, 1, [], []), (56, .istore_n 3, 1, [], []), (57, .aload_n 0, 1, [], []), (58, .invokevirtual 276, 3, [1, 198, 2, 0], []), (61, .iload_n 2, 1, [], []), (62, .ifCond .ne 6, 3, [68, 0], []), (65, .bipush (-2), 2, [], []), (67, .ireturn, 1, [], []), (68, .aload_n 0, 1, [], []), (69, .iconst 0, 1, [0], []), (70, .putfield 56, 3, [10, 4], []), (73, .aload_n 0, 1, [], []), (74, .iload_n 3, 1, [], []), (75, .i2l, 1, [], []), (76, .invokevirtual 242, 3, [2, 118, 3, 0], []), (79, .iload_n 1, 1, [], []), (80, .ireturn, 1, [], [])]
def k_X10_next : List mE := [(0, .aload_n 0, 1, [], []), (1, .iconst 0, 1, [0], []), (2, .putfield 52, 3, [10, 5], []), (5, .aload_n 0, 1, [], []), (6, .invokevirtual 270, 3, [1, 197, 2, 0], []), (9, .iconst 0, 1, [0], []), (10, .istore_n 1, 1, [], []), (11, .iconst 0, 1, [0], []), (12, .istore_n 2, 1, [], []), (13, .iload_n 1, 1, [], [1, 1, 1]), (14, .bipush 99, 2, [99], []), (16, .if_icmp .ge 26, 3, [42, 0], []), (19, .iload_n 2, 1, [], []), (20, .ifCond .ne 22, 3, [42, 0], []), (23, .aload_n 0, 1, [], []), (24, .invokevirtual 236, 3, [1, 170, 2, 0], []), (27, .aload_n 0, 1, [], []), (28, .getfield 9, 3, [10, 0], []), (31, .sipush 1341, 3, [1341], []), (34, .iaload, 1, [], []), (35, .istore_n 2, 1, [], []), (36, .iinc 1 1, 3, [], []), (39, .goto (-26), 3, [13, 1, 1, 1, 1], []), (42, .aload_n 0, 1, [], []), (43, .invokevirtual 276, 3, [1, 198, 2, 0], []), (46, .iload_n 2, 1, [], []), (47, .ifCond .ne 6, 3, [53, 0], []), (50, .bipush (-2), 2, [], []), (52, .ireturn, 1, [], []), (53, .aload_n 0, 1, [], []), (54, .iconst 0, 1, [0], []), (55, .putfield 56, 3, [10, 4], []), (58, .aload_n 0, 1, [], []), (59, .iload_n 2, 1, [], []), (60, .i2l, 1, [], []), (61, .invokevirtual 242, 3, [2, 118, 3, 0], []), (64, .iload_n 1, 1, [], []), (65, .iconst 1, 1, [1], []), (66, .isub, 1, [], []), (67, .ireturn, 1, [], [])]
def k_X10_takes : List mE := [(0, .aload_n 0, 1, [], []), (1, .invokevirtual 270, 3, [1, 197, 2, 0], []), (4, .aload_n 0, 1, [], []), (5, .getfield 9, 3, [10, 0], []), (8, .sipush 1340, 3, [1340], []), (11, .iconst 0, 1, [0], []), (12, .iastore, 1, [], []), (13, .aload_n 0, 1, [], []), (14, .iload_n 1, 1, [], []), (15, .iconst 0, 1, [0], []), (16, .iload_n 2, 1, [], []), (17, .iconst 1, 1, [1], []), (18, .iconst 1, 1, [1], []), (19, .invokevirtual 131, 3, [6, 145, 7, 0], []), (22, .iconst 0, 1, [0], []), (23, .istore_n 3, 1, [], []), (24, .iload_n 3, 1, [], [1, 0, 0, 1, 0]), (25, .bipush 99, 2, [99], []), (27, .if_icmp .ge 24, 3, [51, 0], []), (30, .aload_n 0, 1, [], []), (31, .getfield 9, 3, [10, 0], []), (34, .sipush 1340, 3, [1340], []), (37, .iaload, 1, [], []), (38, .ifCond .ne 13, 3, [51, 0], []), (41, .aload_n 0, 1, [], []), (42, .invokevirtual 236, 3, [1, 170, 2, 0], []), (45, .iinc 3 1, 3, [], []), (48, .goto (-24), 3, [24, 1, 1, 0, 0, 1, 0], []), (51, .aload_n 0, 1, [], []), (52, .getfield 9, 3, [10, 0], []), (55, .sipush 1340, 3, [1340], []), (58, .iaload, 1, [], []), (59, .iconst 1, 1, [1], []), (60, .if_icmp .ne 7, 3, [67, 0], []), (63, .iconst 1, 1, [1], []), (64, .goto 4, 3, [68, 0], []), (67, .iconst 0, 1, [0], []), (68, .istore 4, 2, [], []), (70, .aload_n 0, 1, [], []), (71, .invokevirtual 276, 3, [1, 198, 2, 0], []), (74, .iload 4, 2, [], []), (76, .ifCond .eq 7, 3, [83, 0], []), (79, .iload_n 3, 1, [], []), (80, .goto 4, 3, [84, 0], []), (83, .iconst 0, 1, [0], []), (84, .ireturn, 1, [], [])]
def k_X10_soonest : List mE := [(0, .aload_n 0, 1, [], []), (1, .iconst 0, 1, [0], []), (2, .putfield 52, 3, [10, 5], []), (5, .aload_n 0, 1, [], []), (6, .iload_n 1, 1, [], []), (7, .invokevirtual 139, 3, [2, 121, 2, 1], []), (10, .ifCond .ne 5, 3, [15, 0], []), (13, .iconst (-1), 1, [], []), (14, .ireturn, 1, [], []), (15, .iconst (-1), 1, [], []), (16, .istore_n 2, 1, [], []), (17, .iconst 0, 1, [0], []), (18, .istore_n 3, 1, [], []), (19, .iconst 0, 1, [0], []), (20, .istore 4, 2, [], []), (22, .iload 4, 2, [], [1, 1, 1, 1, 1, 0]), (24, .aload_n 0, 1, [], []), (25, .getfield 9, 3, [10, 0], []), (28, .iconst 0, 1, [0], []), (29, .iaload, 1, [], []), (30, .if_icmp .ge 76, 3, [106, 0], []), (33, .aload_n 0, 1, [], []), (34, .iload 4, 2, [], []), (36, .iload_n 1, 1, [], []), (37, .invokevirtual 127, 3, [3, 124, 3, 1], []), (40, .ifCond .eq 60, 3, [100, 0], []), (43, .aload_n 0, 1, [], []), (44, .getfield 9, 3, [10, 0], []), (47, .sipush 147, 3, [147], []), (50, .iload 4, 2, [], []), (52, .iconst 0, 1, [0], []), (53, .invokestatic 67, 3, [2, 125, 2, 1], []), (56, .iadd, 1, [], []), (57, .iaload, 1, [], []), (58, .bipush 8, 2, [8], []), (60, .if_icmp .ne 6, 3, [66, 0], []), (63, .goto 37, 3, [100, 0], []), (66, .aload_n 0, 1, [], []), (67, .iload 4, 2, [], []), (69, .iload_n 1, 1, [], []), (70, .invokevirtual 282, 3, [3, 203, 5, 1], []), (73, .istore 5, 2, [], []), (75, .iload 5, 2, [], []), (77, .ifCond .eq 23, 3, [100, 0], []), (80, .iload_n 2, 1, [], []), (81, .iconst (-1), 1, [], []), (82, .if_icmp .eq 12, 3, [94, 0], []), (85, .iload 5, 2, [], []), (87, .iload_n 3, 1, [], []), (88, .if_icmp .lt 6, 3, [94, 0], []), (91, .goto 9, 3, [100, 0], []), (94, .iload 4, 2, [], []), (96, .istore_n 2, 1, [], []), (97, .iload 5, 2, [], []), (99, .istore_n 3, 1, [], []), (100, .iinc 4 1, 3, [], []), (103, .goto (-81), 3, [22, 1, 1, 1, 1, 1, 1, 0], []), (106, .iload_n 2, 1, [], []), (107, .iconst (-1), 1, [], []), (108, .if_icmp .ne 6, 3, [114, 0], []), (111, .bipush (-2), 2, [], []), (113, .ireturn, 1, [], []), (114, .aload_n 0, 1, [], []), (115, .iconst 0, 1, [0], []), (116, .putfield 56, 3, [10, 4], []), (119, .aload_n 0, 1, [], []), (120, .iload_n 3, 1, [], []), (121, .i2l, 1, [], []), (122, .invokevirtual 242, 3, [2, 118, 3, 0], []), (125, .iload_n 2, 1, [], []), (126, .ireturn, 1, [], [])]
def k_X10_readAct : List mE := [(0, .aload_n 0, 1, [], []), (1, .invokevirtual 86, 3, [1, 132, 1, 1], []), (4, .istore_n 2, 1, [], []), (5, .iload_n 2, 1, [], []), (6, .bipush 102, 2, [102], []), (8, .if_icmp .eq 24, 3, [32, 0], []), (11, .iload_n 2, 1, [], []), (12, .bipush 115, 2, [115], []), (14, .if_icmp .eq 18, 3, [32, 0], []), (17, .iload_n 2, 1, [], []), (18, .bipush 100, 2, [100], []), (20, .if_icmp .eq 12, 3, [32, 0], []), (23, .aload_n 0, 1, [], []), (24, .aload_n 0, 1, [], []), (25, .getfield 77, 3, [10, 7], []), (28, .invokevirtual 90, 3, [2, 134, 2, 0], []), (31, .return_, 1, [], []), (32, .aload_n 0, 1, [], []), (33, .dup, 1, [], []), (34, .getfield 77, 3, [10, 7], []), (37, .iconst 1, 1, [1], []), (38, .iadd, 1, [], []), (39, .putfield 77, 3, [10, 7], []), (42, .aload_n 0, 1, [], []), (43, .getfield 33, 3, [10, 14], []), (46, .iload_n 1, 1, [], []), (47, .iload_n 2, 1, [], []), (48, .iastore, 1, [], []), (49, .iload_n 2, 1, [], []), (50, .bipush 115, 2, [115], []), (52, .if_icmp .ne 15, 3, [67, 0], []), (55, .aload_n 0, 1, [], []), (56, .getfield 33, 3, [10, 14], []), (59, .iload_n 1, 1, [], []), (60, .iconst 1, 1, [1], []), (61, .iadd, 1, [], []), (62, .aload_n 0, 1, [], []), (63, .invokevirtual 285, 3, [1, 136, 2, 1], []), (66, .iastore, 1, [], []), (67, .iload_n 2, 1, [], [1, 1, 1]), (68, .bipush 102, 2, [102], []), (70, .if_icmp .eq 4, 3, [74, 0], []), (73, .return_, 1, [], []), (74, .aload_n 0, 1, [], []), (75, .getfield 33, 3, [10, 14], []), (78, .iload_n 1, 1, [], []), (79, .iconst 1, 1, [1], []), (80, .iadd, 1, [], []), (81, .aload_n 0, 1, [], []), (82, .bipush 97, 2, [97], []), (84, .bipush 6, 2, [6], []), (86, .invokevirtual 94, 3, [3, 135, 3, 1], []), (89, .iastore, 1, [], []), (90, .aload_n 0, 1, [], []), (91, .getfield 33, 3, [10, 14], []), (94, .iload_n 1, 1, [], []), (95, .iconst 2, 1, [2], []), (96, .iadd, 1, [], []), (97, .aload_n 0, 1, [], []), (98, .bipush 48, 2, [48], []), (100, .iconst 4, 1, [4], []), (101, .invokevirtual 94, 3, [3, 135, 3, 1], []), (104, .iastore, 1, [], []), (105, .aload_n 0, 1, [], []), (106, .getfield 33, 3, [10, 14], []), (109, .iload_n 1, 1, [], []), (110, .iconst 3, 1, [3], []), (111, .iadd, 1, [], []), (112, .aload_n 0, 1, [], []), (113, .bipush 97, 2, [97], []), (115, .bipush 6, 2, [6], []), (117, .invokevirtual 94, 3, [3, 135, 3, 1], []), (120, .iastore, 1, [], []), (121, .aload_n 0, 1, [], []), (122, .getfield 33, 3, [10, 14], []), (125, .iload_n 1, 1, [], []), (126, .iconst 4, 1, [4], []), (127, .iadd, 1, [], []), (128, .aload_n 0, 1, [], []), (129, .bipush 49, 2, [49], []), (131, .bipush 9, 2, [9], []), (133, .invokevirtual 94, 3, [3, 135, 3, 1], []), (136, .iconst 1, 1, [1], []), (137, .iadd, 1, [], []), (138, .iastore, 1, [], []), (139, .return_, 1, [], [])]
def k_X10_act : List mE := [(0, .aload_n 0, 1, [], []), (1, .getfield 33, 3, [10, 14], []), (4, .iload_n 1, 1, [], []), (5, .iaload, 1, [], []), (6, .bipush 100, 2, [100], []), (8, .if_icmp .ne 10, 3, [18, 0], []), (11, .aload_n 0, 1, [], []), (12, .invokevirtual 246, 3, [1, 173, 4, 1], []), (15, .pop, 1, [], []), (16, .iconst 1, 1, [1], []), (17, .ireturn, 1, [1], []), (18, .aload_n 0, 1, [], []), (19, .getfield 33, 3, [10, 14], []), (22, .iload_n 1, 1, [], []), (23, .iaload, 1, [], []), (24, .bipush 115, 2, [115], []), (26, .if_icmp .ne 36, 3, [62, 0], []), (29, .aload_n 0, 1, [], []), (30, .getfield 33, 3, [10, 14], []), (33, .iload_n 1, 1, [], []), (34, .iconst 1, 1, [1], []), (35, .iadd, 1, [], []), (36, .iaload, 1, [], []), (37, .iconst 1, 1, [1], []), (38, .bipush 60, 2, [60], []), (40, .invokestatic 59, 3, [3, 115, 3, 1], []), (43, .ifCond .ne 5, 3, [48, 0], []), (46, .iconst 0, 1, [0], []), (47, .ireturn, 1, [1], []), (48, .aload_n 0, 1, [], []), (49, .aload_n 0, 1, [], []), (50, .getfield 33, 3, [10, 14], []), (53, .iload_n 1, 1, [], []), (54, .iconst 1, 1, [1], []), (55, .iadd, 1, [], []), (56, .iaload, 1, [], []), (57, .invokevirtual 239, 3, [2, 171, 3, 0], []), (60, .iconst 1, 1, [1], []), (61, .ireturn, 1, [1], []), (62, .aload_n 0, 1, [], []), (63, .aload_n 0, 1, [], []), (64, .getfield 33, 3, [10, 14], []), (67, .iload_n 1, 1, [], []), (68, .iconst 1, 1, [1], []), (69, .iadd, 1, [], []), (70, .iaload, 1, [], []), (71, .aload_n 0, 1, [], []), (72, .getfield 33, 3, [10, 14], []), (75, .iload_n 1, 1, [], []), (76, .iconst 2, 1, [2], []), (77, .iadd, 1, [], []), (78, .iaload, 1, [], []), (79, .aload_n 0, 1, [], []), (80, .getfield 33, 3, [10, 14], []), (83, .iload_n 1, 1, [], []), (84, .iconst 3, 1, [3], []), (85, .iadd, 1, [], []), (86, .iaload, 1, [], []), (87, .aload_n 0, 1, [], []), (88, .getfield 33, 3, [10, 14], []), (91, .iload_n 1, 1, [], []), (92, .iconst 4, 1, [4], []), (93, .iadd, 1, [], []), (94, .iaload, 1, [], []), (95, .invokevirtual 142, 3, [5, 147, 5, 1], []), (98, .ifCond .ge 5, 3, [103, 0], []), (101, .iconst 0, 1, [0], []), (102, .ireturn, 1, [1], []), (103, .aload_n 0, 1, [], []), (104, .aload_n 0, 1, [], []), (105, .getfield 33, 3, [10, 14], []), (108, .iload_n 1, 1, [], []), (109, .iconst 1, 1, [1], []), (110, .iadd, 1, [], []), (111, .iaload, 1, [], []), (112, .aload_n 0, 1, [], []), (113, .getfield 33, 3, [10, 14], []), (116, .iload_n 1, 1, [], []), (117, .iconst 2, 1, [2], []), (118, .iadd, 1, [], []), (119, .iaload, 1, [], []), (120, .aload_n 0, 1, [], []), (121, .getfield 33, 3, [10, 14], []), (124, .iload_n 1, 1, [], []), (125, .iconst 3, 1, [3], []), (126, .iadd, 1, [], []), (127, .iaload, 1, [], []), (128, .aload_n 0, 1, [], []), (129, .getfield 33, 3, [10, 14], []), (132, .iload_n 1, 1, [], []), (133, .iconst 4, 1, [4], []), (134, .iadd, 1, [], []), (135, .iaload, 1, [], []), (136, .iconst 0, 1, [0], []), (137, .invokevirtual 131, 3, [6, 145, 7, 0], []), (140, .iconst 1, 1, [1], []), (141, .ireturn, 1, [1], [])]
def k_X10_day : List mE := [(0, .aload_n 0, 1, [], []), (1, .iconst 0, 1, [0], []), (2, .putfield 52, 3, [10, 5], []), (5, .aload_n 0, 1, [], []), (6, .invokevirtual 98, 3, [1, 131, 1, 0], []), (9, .iconst 0, 1, [0], []), (10, .istore_n 1, 1, [], []), (11, .aload_n 0, 1, [], [1, 1, 0, 0]), (12, .invokevirtual 82, 3, [1, 133, 1, 1], []), (15, .ifCond .eq 27, 3, [42, 0], []), (18, .aload_n 0, 1, [], []), (19, .getfield 77, 3, [10, 7], []), (22, .aload_n 0, 1, [], []), (23, .getfield 74, 3, [10, 6], []), (26, .if_icmp .ge 16, 3, [42, 0], []), (29, .aload_n 0, 1, [], []), (30, .iconst 5, 1, [5], []), (31, .iload_n 1, 1, [], []), (32, .imul, 1, [], []), (33, .invokevirtual 288, 3, [2, 205, 3, 0], []), (36, .iinc 1 1, 3, [], []), (39, .goto (-28), 3, [11, 1, 1, 1, 0, 0], []), (42, .aload_n 0, 1, [], []), (43, .invokevirtual 105, 3, [1, 137, 1, 1], []), (46, .ifCond .ne 10, 3, [56, 0], []), (49, .iconst (-1), 1, [], []), (50, .aload_n 0, 1, [], []), (51, .getfield 79, 3, [10, 8], []), (54, .isub, 1, [], []), (55, .ireturn, 1, [], []), (56, .iconst 0, 1, [0], []), (57, .istore_n 2, 1, [], []), (58, .iload_n 2, 1, [], [1, 1, 1, 0]), (59, .sipush 1432, 3, [1432], []), (62, .if_icmp .ge 21, 3, [83, 0], []), (65, .aload_n 0, 1, [], []), (66, .getfield 39, 3, [10, 16], []), (69, .iload_n 2, 1, [], []), (70, .aload_n 0, 1, [], []), (71, .getfield 9, 3, [10, 0], []), (74, .iload_n 2, 1, [], []), (75, .iaload, 1, [], []), (76, .iastore, 1, [], []), (77, .iinc 2 1, 3, [], []), (80, .goto (-22), 3, [58, 1, 1, 1, 1, 0], []), (83, .aload_n 0, 1, [], []), (84, .getfield 9, 3, [10, 0], []), (87, .sipush 1336, 3, [1336], []), (90, .iaload, 1, [], []), (91, .istore_n 2, 1, [], []), (92, .iconst 0, 1, [0], []), (93, .istore_n 3, 1, [], []), (94, .iload_n 3, 1, [], [1, 1, 1, 1]), (95, .iload_n 1, 1, [], []), (96, .if_icmp .ge 19, 3, [115, 0], []), (99, .aload_n 0, 1, [], []), (100, .iconst 5, 1, [5], []), (101, .iload_n 3, 1, [], []), (102, .imul, 1, [], []), (103, .invokevirtual 291, 3, [2, 206, 2, 1], []), (106, .ifCond .eq 9, 3, [115, 0], []), (109, .iinc 3 1, 3, [], []), (112, .goto (-18), 3, [94, 1, 1, 1, 1, 1], []), (115, .iload_n 3, 1, [], []), (116, .ifCond .le 7, 3, [123, 0], []), (119, .aload_n 0, 1, [], []), (120, .invokevirtual 294, 3, [1, 209, 2, 0], []), (123, .aload_n 0, 1, [], []), (124, .iconst 0, 1, [0], []), (125, .putfield 56, 3, [10, 4], []), (128, .aload_n 0, 1, [], []), (129, .iload_n 3, 1, [], []), (130, .iload_n 1, 1, [], []), (131, .if_icmp .ge 7, 3, [138, 0], []), (134, .lconst 1, 1, [1], []), (135, .goto 4, 3, [139, 0], []), (138, .lconst 0, 1, [0], []), (139, .invokevirtual 242, 3, [2, 118, 3, 0], []), (142, .aload_n 0, 1, [], []), (143, .aload_n 0, 1, [], []), (144, .getfield 9, 3, [10, 0], []), (147, .sipush 1336, 3, [1336], []), (150, .iaload, 1, [], []), (151, .iload_n 2, 1, [], []), (152, .isub, 1, [], []), (153, .i2l, 1, [], []), (154, .invokevirtual 242, 3, [2, 118, 3, 0], []), (157, .iload_n 3, 1, [], []), (158, .ireturn, 1, [], [])]
def k_X10_change : List mE := [(0, .iconst 0, 1, [0], []), (1, .istore_n 1, 1, [], []), (2, .iload_n 1, 1, [], [1, 1]), (3, .sipush 1432, 3, [1432], []), (6, .if_icmp .ge 21, 3, [27, 0], []), (9, .aload_n 0, 1, [], []), (10, .getfield 39, 3, [10, 16], []), (13, .iload_n 1, 1, [], []), (14, .aload_n 0, 1, [], []), (15, .getfield 9, 3, [10, 0], []), (18, .iload_n 1, 1, [], []), (19, .iaload, 1, [], []), (20, .iastore, 1, [], []), (21, .iinc 1 1, 3, [], []), (24, .goto (-22), 3, [2, 1, 1, 1], []), (27, .aload_n 0, 1, [], []), (28, .invokevirtual 294, 3, [1, 209, 2, 0], []), (31, .return_, 1, [], [])]
def k_X10_note : List mE := [(0, .aload_n 0, 1, [], []), (1, .getfield 297, 3, [10, 17], []), (4, .bipush 6, 2, [6], []), (6, .if_icmp .ne 44, 3, [50, 0], []), (9, .iconst 0, 1, [0], []), (10, .istore_n 1, 1, [], []), (11, .iload_n 1, 1, [], [1, 1]), (12, .sipush 7160, 3, [7160], []), (15, .if_icmp .ge 25, 3, [40, 0], []), (18, .aload_n 0, 1, [], []), (19, .getfield 36, 3, [10, 15], []), (22, .iload_n 1, 1, [], []), (23, .aload_n 0, 1, [], []), (24, .getfield 36, 3, [10, 15], []), (27, .iload_n 1, 1, [], []), (28, .sipush 1432, 3, [1432], []), (31, .iadd, 1, [], []), (32, .iaload, 1, [], []), (33, .iastore, 1, [], []), (34, .iinc 1 1, 3, [], []), (37, .goto (-26), 3, [11, 1, 1, 1], []), (40, .aload_n 0, 1, [], []), (41, .dup, 1, [], []), (42, .getfield 297, 3, [10, 17], []), (45, .iconst 1, 1, [1], []), (46, .isub, 1, [], []), (47, .putfield 297, 3, [10, 17], []), (50, .iconst 0, 1, [0], []), (51, .istore_n 1, 1, [], []), (52, .iload_n 1, 1, [], [1, 1]), (53, .sipush 1432, 3, [1432], []), (56, .if_icmp .ge 30, 3, [86, 0], []), (59, .aload_n 0, 1, [], []), (60, .getfield 36, 3, [10, 15], []), (63, .sipush 1432, 3, [1432], []), (66, .aload_n 0, 1, [], []), (67, .getfield 297, 3, [10, 17], []), (70, .imul, 1, [], []), (71, .iload_n 1, 1, [], []), (72, .iadd, 1, [], []), (73, .aload_n 0, 1, [], []), (74, .getfield 39, 3, [10, 16], []), (77, .iload_n 1, 1, [], []), (78, .iaload, 1, [], []), (79, .iastore, 1, [], []), (80, .iinc 1 1, 3, [], []), (83, .goto (-31), 3, [52, 1, 1, 1], []), (86, .aload_n 0, 1, [], []), (87, .dup, 1, [], []), (88, .getfield 297, 3, [10, 17], []), (91, .iconst 1, 1, [1], []), (92, .iadd, 1, [], []), (93, .putfield 297, 3, [10, 17], []), (96, .return_, 1, [], [])]
def k_X10_undo : List mE := [(0, .aload_n 0, 1, [], []), (1, .iconst 0, 1, [0], []), (2, .putfield 52, 3, [10, 5], []), (5, .aload_n 0, 1, [], []), (6, .getfield 297, 3, [10, 17], []), (9, .ifCond .ne 5, 3, [14, 0], []), (12, .iconst (-1), 1, [], []), (13, .ireturn, 1, [], []), (14, .aload_n 0, 1, [], []), (15, .dup, 1, [], []), (16, .getfield 297, 3, [10, 17], []), (19, .iconst 1, 1, [1], []), (20, .isub, 1, [], []), (21, .putfield 297, 3, [10, 17], []), (24, .iconst 0, 1, [0], []), (25, .istore_n 1, 1, [], []), (26, .iload_n 1, 1, [], [1, 1]), (27, .sipush 1432, 3, [1432], []), (30, .if_icmp .ge 30, 3, [60, 0], []), (33, .aload_n 0, 1, [], []), (34, .getfield 9, 3, [10, 0], []), (37, .iload_n 1, 1, [], []), (38, .aload_n 0, 1, [], []), (39, .getfield 36, 3, [10, 15], []), (42, .sipush 1432, 3, [1432], []), (45, .aload_n 0, 1, [], []), (46, .getfield 297, 3, [10, 17], []), (49, .imul, 1, [], []), (50, .iload_n 1, 1, [], []), (51, .iadd, 1, [], []), (52, .iaload, 1, [], []), (53, .iastore, 1, [], []), (54, .iinc 1 1, 3, [], []), (57, .goto (-31), 3, [26, 1, 1, 1], []), (60, .aload_n 0, 1, [], []), (61, .getfield 297, 3, [10, 17], []), (64, .ireturn, 1, [], [])]
def k_X10_drawBeside : List mE := [(0, .aload_n 0, 1, [], []), (1, .aload_n 0, 1, [], []), (2, .getfield 300, 3, [10, 18], []), (5, .ldc 70, 2, [1103515245], []), (7, .imul, 1, [], []), (8, .sipush 12345, 3, [12345], []), (11, .iadd, 1, [], []), (12, .putfield 300, 3, [10, 18], []), (15, .aload_n 0, 1, [], []), (16, .getfield 300, 3, [10, 18], []), (19, .bipush 16, 2, [16], []), (21, .iushr, 1, [], []), (22, .iload_n 1, 1, [], []), (23, .irem, 1, [], []), (24, .ireturn, 1, [], [])]
def k_X10_years : List mE := [(0, .aload_n 0, 1, [], []), (1, .iconst 0, 1, [0], []), (2, .putfield 52, 3, [10, 5], []), (5, .iload_n 2, 1, [], []), (6, .iconst 1, 1, [1], []), (7, .bipush 40, 2, [40], []), (9, .invokestatic 59, 3, [3, 115, 3, 1], []), (12, .ifCond .ne 5, 3, [17, 0], []), (15, .iconst (-1), 1, [], []), (16, .ireturn, 1, [], []), (17, .aload_n 0, 1, [], []), (18, .iload_n 1, 1, [], []), (19, .putfield 300, 3, [10, 18], []), (22, .aload_n 0, 1, [], []), (23, .invokevirtual 270, 3, [1, 197, 2, 0], []), (26, .iconst 0, 1, [0], []), (27, .istore_n 3, 1, [], []), (28, .iload_n 3, 1, [], [1, 0, 1, 1, 0, 0, 0, 0]), (29, .iload_n 2, 1, [], []), (30, .if_icmp .ge 94, 3, [124, 0], []), (33, .aload_n 0, 1, [], []), (34, .iconst 3, 1, [3], []), (35, .invokevirtual 303, 3, [2, 211, 2, 1], []), (38, .iconst 2, 1, [2], []), (39, .if_icmp .ne 18, 3, [57, 0], []), (42, .aload_n 0, 1, [], []), (43, .aload_n 0, 1, [], []), (44, .bipush 8, 2, [8], []), (46, .invokevirtual 303, 3, [2, 211, 2, 1], []), (49, .iconst 1, 1, [1], []), (50, .iadd, 1, [], []), (51, .invokevirtual 239, 3, [2, 171, 3, 0], []), (54, .goto 64, 3, [118, 0], []), (57, .aload_n 0, 1, [], []), (58, .bipush 6, 2, [6], []), (60, .invokevirtual 303, 3, [2, 211, 2, 1], []), (63, .istore 4, 2, [], []), (65, .aload_n 0, 1, [], []), (66, .iconst 4, 1, [4], []), (67, .invokevirtual 303, 3, [2, 211, 2, 1], []), (70, .istore 5, 2, [], []), (72, .aload_n 0, 1, [], []), (73, .bipush 6, 2, [6], []), (75, .invokevirtual 303, 3, [2, 211, 2, 1], []), (78, .istore 6, 2, [], []), (80, .aload_n 0, 1, [], []), (81, .bipush 9, 2, [9], []), (83, .invokevirtual 303, 3, [2, 211, 2, 1], []), (86, .iconst 1, 1, [1], []), (87, .iadd, 1, [], []), (88, .istore 7, 2, [], []), (90, .aload_n 0, 1, [], []), (91, .iload 4, 2, [], []), (93, .iload 5, 2, [], []), (95, .iload 6, 2, [], []), (97, .iload 7, 2, [], []), (99, .invokevirtual 142, 3, [5, 147, 5, 1], []), (102, .ifCond .ne 16, 3, [118, 0], []), (105, .aload_n 0, 1, [], []), (106, .iload 4, 2, [], []), (108, .iload 5, 2, [], []), (110, .iload 6, 2, [], []), (112, .iload 7, 2, [], []), (114, .iconst 0, 1, [0], []), (115, .invokevirtual 131, 3, [6, 145, 7, 0], []), (118, .iinc 3 1, 3, [], []), (121, .goto (-93), 3, [28, 1, 1, 0, 1, 1, 0, 0, 0, 0], []), (124, .aload_n 0, 1, [], []), (125, .getfield 9, 3, [10, 0], []), (128, .sipush 1336, 3, [1336], []), (131, .iaload, 1, [], []), (132, .aload_n 0, 1, [], []), (133, .getfield 30, 3, [10, 13], []), (136, .sipush 1336, 3, [1336], []), (139, .iaload, 1, [], []), (140, .isub, 1, [], []), (141, .istore_n 3, 1, [], []), (142, .aload_n 0, 1, [], []), (143, .getfield 9, 3, [10, 0], []), (146, .sipush 1337, 3, [1337], []), (149, .iaload, 1, [], []), (150, .aload_n 0, 1, [], []), (151, .getfield 30, 3, [10, 13], []), (154, .sipush 1337, 3, [1337], []), (157, .iaload, 1, [], []), (158, .isub, 1, [], []), (159, .istore 4, 2, [], []), (161, .aload_n 0, 1, [], []), (162, .invokevirtual 273, 3, [1, 176, 3, 1], []), (165, .istore 5, 2, [], []), (167, .aload_n 0, 1, [], []), (168, .getfield 9, 3, [10, 0], []), (171, .iconst 1, 1, [1], []), (172, .iaload, 1, [], []), (173, .aload_n 0, 1, [], []), (174, .getfield 30, 3, [10, 13], []), (177, .iconst 1, 1, [1], []), (178, .iaload, 1, [], []), (179, .isub, 1, [], []), (180, .istore 6, 2, [], []), (182, .aload_n 0, 1, [], []), (183, .invokevirtual 276, 3, [1, 198, 2, 0], []), (186, .aload_n 0, 1, [], []), (187, .iconst 0, 1, [0], []), (188, .putfield 56, 3, [10, 4], []), (191, .aload_n 0, 1, [], []), (192, .iload 4, 2, [], []), (194, .i2l, 1, [], []), (195, .invokevirtual 242, 3, [2, 118, 3, 0], []), (198, .aload_n 0, 1, [], []), (199, .iload 5, 2, [], []), (201, .i2l, 1, [], []), (202, .invokevirtual 242, 3, [2, 118, 3, 0], []), (205, .aload_n 0, 1, [], []), (206, .iload 6, 2, [], []), (208, .i2l, 1, [], []), (209, .invokevirtual 242, 3, [2, 118, 3, 0], []), (212, .iload_n 3, 1, [], []), (213, .ireturn, 1, [], [])]
def k_X10_keep : List mE := [(0, .aload_n 0, 1, [], []), (1, .iconst 0, 1, [0], []), (2, .putfield 52, 3, [10, 5], []), (5, .iload_n 1, 1, [], []), (6, .iconst 0, 1, [0], []), (7, .iconst 1, 1, [1], []), (8, .invokestatic 59, 3, [3, 115, 3, 1], []), (11, .ifCond .ne 5, 3, [16, 0], []), (14, .iconst 0, 1, [0], []), (15, .ireturn, 1, [1], []), (16, .aload_n 0, 1, [], []), (17, .getfield 45, 3, [10, 20], []), (20, .iload_n 1, 1, [], []), (21, .iconst 1, 1, [1], []), (22, .bastore, 1, [], []), (23, .iconst 0, 1, [0], []), (24, .istore_n 2, 1, [], []), (25, .iload_n 2, 1, [], [1, 1, 1]), (26, .sipush 1432, 3, [1432], []), (29, .if_icmp .ge 27, 3, [56, 0], []), (32, .aload_n 0, 1, [], []), (33, .getfield 42, 3, [10, 19], []), (36, .sipush 1432, 3, [1432], []), (39, .iload_n 1, 1, [], []), (40, .imul, 1, [], []), (41, .iload_n 2, 1, [], []), (42, .iadd, 1, [], []), (43, .aload_n 0, 1, [], []), (44, .getfield 9, 3, [10, 0], []), (47, .iload_n 2, 1, [], []), (48, .iaload, 1, [], []), (49, .iastore, 1, [], []), (50, .iinc 2 1, 3, [], []), (53, .goto (-28), 3, [25, 1, 1, 1, 1], []), (56, .iconst 1, 1, [1], []), (57, .ireturn, 1, [1], [])]
def k_X10_again : List mE := [(0, .aload_n 0, 1, [], []), (1, .iconst 0, 1, [0], []), (2, .putfield 52, 3, [10, 5], []), (5, .iload_n 1, 1, [], []), (6, .iconst 0, 1, [0], []), (7, .iconst 1, 1, [1], []), (8, .invokestatic 59, 3, [3, 115, 3, 1], []), (11, .ifCond .eq 12, 3, [23, 0], []), (14, .aload_n 0, 1, [], []), (15, .getfield 45, 3, [10, 20], []), (18, .iload_n 1, 1, [], []), (19, .baload, 1, [], []), (20, .ifCond .ne 5, 3, [25, 0], []), (23, .iconst 0, 1, [0], []), (24, .ireturn, 1, [1], []), (25, .iconst 0, 1, [0], []), (26, .istore_n 2, 1, [], []), (27, .iload_n 2, 1, [], [1, 1, 1]), (28, .sipush 1432, 3, [1432], []), (31, .if_icmp .ge 27, 3, [58, 0], []), (34, .aload_n 0, 1, [], []), (35, .getfield 9, 3, [10, 0], []), (38, .iload_n 2, 1, [], []), (39, .aload_n 0, 1, [], []), (40, .getfield 42, 3, [10, 19], []), (43, .sipush 1432, 3, [1432], []), (46, .iload_n 1, 1, [], []), (47, .imul, 1, [], []), (48, .iload_n 2, 1, [], []), (49, .iadd, 1, [], []), (50, .iaload, 1, [], []), (51, .iastore, 1, [], []), (52, .iinc 2 1, 3, [], []), (55, .goto (-28), 3, [27, 1, 1, 1, 1], []), (58, .aload_n 0, 1, [], []), (59, .iconst 0, 1, [0], []), (60, .putfield 297, 3, [10, 17], []), (63, .iconst 1, 1, [1], []), (64, .ireturn, 1, [1], [])]
def k_X10_exchanges : List mE := [(0, .iconst 0, 1, [0], []), (1, .istore_n 1, 1, [], []), (2, .iconst 0, 1, [0], []), (3, .istore_n 2, 1, [], []), (4, .iload_n 2, 1, [], [1, 1, 1]), (5, .aload_n 0, 1, [], []), (6, .getfield 9, 3, [10, 0], []), (9, .iconst 0, 1, [0], []), (10, .iaload, 1, [], []), (11, .if_icmp .ge 23, 3, [34, 0], []), (14, .iload_n 1, 1, [], []), (15, .aload_n 0, 1, [], []), (16, .getfield 9, 3, [10, 0], []), (19, .iload_n 2, 1, [], []), (20, .invokestatic 117, 3, [1, 127, 1, 1], []), (23, .iconst 0, 1, [0], []), (24, .iadd, 1, [], []), (25, .iaload, 1, [], []), (26, .iadd, 1, [], []), (27, .istore_n 1, 1, [], []), (28, .iinc 2 1, 3, [], []), (31, .goto (-27), 3, [4, 1, 1, 1, 1], []), (34, .iload_n 1, 1, [], []), (35, .ireturn, 1, [], [])]
def k_X10_count : List mE := [(0, .aload_n 0, 1, [], []), (1, .iconst 0, 1, [0], []), (2, .putfield 52, 3, [10, 5], []), (5, .iload_n 1, 1, [], []), (6, .tableswitch 94 0 7 #[46, 53, 60, 65, 70, 75, 80, 85], 46, [100, 52, 59, 66, 71, 76, 81, 86, 91], []), (52, .aload_n 0, 1, [], []), (53, .getfield 9, 3, [10, 0], []), (56, .iconst 0, 1, [0], []), (57, .iaload, 1, [], []), (58, .ireturn, 1, [], []), (59, .aload_n 0, 1, [], []), (60, .getfield 9, 3, [10, 0], []), (63, .iconst 1, 1, [1], []), (64, .iaload, 1, [], []), (65, .ireturn, 1, [], []), (66, .aload_n 0, 1, [], []), (67, .invokevirtual 273, 3, [1, 176, 3, 1], []), (70, .ireturn, 1, [], []), (71, .aload_n 0, 1, [], []), (72, .invokevirtual 306, 3, [1, 215, 3, 1], []), (75, .ireturn, 1, [], []), (76, .aload_n 0, 1, [], []), (77, .getfield 297, 3, [10, 17], []), (80, .ireturn, 1, [], []), (81, .aload_n 0, 1, [], []), (82, .getfield 56, 3, [10, 4], []), (85, .ireturn, 1, [], []), (86, .aload_n 0, 1, [], []), (87, .getfield 71, 3, [10, 2], []), (90, .ireturn, 1, [], []), (91, .aload_n 0, 1, [], []), (92, .getfield 9, 3, [10, 0], []), (95, .sipush 1336, 3, [1336], []), (98, .iaload, 1, [], []), (99, .ireturn, 1, [], []), (100, .iconst (-1), 1, [], []), (101, .ireturn, 1, [], [])]
def k_X10_row : List mE := [(0, .aload_n 0, 1, [], []), (1, .iconst 0, 1, [0], []), (2, .putfield 52, 3, [10, 5], []), (5, .iload_n 1, 1, [], []), (6, .iconst 0, 1, [0], []), (7, .aload_n 0, 1, [], []), (8, .getfield 56, 3, [10, 4], []), (11, .iconst 1, 1, [1], []), (12, .isub, 1, [], []), (13, .invokestatic 59, 3, [3, 115, 3, 1], []), (16, .ifCond .eq 12, 3, [28, 0], []), (19, .aload_n 0, 1, [], []), (20, .getfield 17, 3, [10, 3], []), (23, .iload_n 1, 1, [], []), (24, .laload, 1, [], []), (25, .goto 8, 3, [33, 0], []), (28, .aload_n 0, 1, [], []), (29, .invokevirtual 114, 3, [1, 117, 1, 1], []), (32, .i2l, 1, [], []), (33, .lreturn, 1, [], [])]
def k_J6_bitCount : List mE := [(0, .iload_n 0, 1, [], []), (1, .iload_n 0, 1, [], []), (2, .iconst 1, 1, [1], []), (3, .iushr, 1, [], []), (4, .ldc_w 265, 3, [1431655765], []), (7, .iand, 1, [], []), (8, .isub, 1, [], []), (9, .istore_n 0, 1, [], []), (10, .iload_n 0, 1, [], []), (11, .ldc_w 266, 3, [858993459], []), (14, .iand, 1, [], []), (15, .iload_n 0, 1, [], []), (16, .iconst 2, 1, [2], []), (17, .iushr, 1, [], []), (18, .ldc_w 266, 3, [858993459], []), (21, .iand, 1, [], []), (22, .iadd, 1, [], []), (23, .istore_n 0, 1, [], []), (24, .iload_n 0, 1, [], []), (25, .iload_n 0, 1, [], []), (26, .iconst 4, 1, [4], []), (27, .iushr, 1, [], []), (28, .iadd, 1, [], []), (29, .ldc_w 267, 3, [252645135], []), (32, .iand, 1, [], []), (33, .istore_n 0, 1, [], []), (34, .iload_n 0, 1, [], []), (35, .iload_n 0, 1, [], []), (36, .bipush 8, 2, [8], []), (38, .iushr, 1, [], []), (39, .iadd, 1, [], []), (40, .istore_n 0, 1, [], []), (41, .iload_n 0, 1, [], []), (42, .iload_n 0, 1, [], []), (43, .bipush 16, 2, [16], []), (45, .iushr, 1, [], []), (46, .iadd, 1, [], []), (47, .istore_n 0, 1, [], []), (48, .iload_n 0, 1, [], []), (49, .bipush 63, 2, [63], []), (51, .iand, 1, [], []), (52, .ireturn, 1, [], [])]
def k_L_setting : List mE := [(0, .aload_n 2, 1, [], []), (1, .iconst 0, 1, [0], []), (2, .aload_n 0, 1, [], []), (3, .iload_n 1, 1, [], []), (4, .invokevirtual 7, 3, [2, 69, 2, 3, 13], []), (7, .i2l, 1, [], []), (8, .lastore, 1, [], []), (9, .goto 6, 3, [15, 0], []), (12, .astore_n 3, 1, [], []), (13, .iconst 1, 1, [1], []), (14, .ireturn, 1, [], []), (15, .iconst 0, 1, [0], []), (16, .ireturn, 1, [], [])]
def k_L_station : List mE := [(0, .aload_n 3, 1, [], []), (1, .iconst 0, 1, [0], []), (2, .aload_n 0, 1, [], []), (3, .iload_n 1, 1, [], []), (4, .iload_n 2, 1, [], []), (5, .invokevirtual 15, 3, [3, 74, 4, 3, 15], []), (8, .i2l, 1, [], []), (9, .lastore, 1, [], []), (10, .goto 7, 3, [17, 0], []), (13, .astore 4, 2, [], []), (15, .iconst 1, 1, [1], []), (16, .ireturn, 1, [], []), (17, .iconst 0, 1, [0], []), (18, .ireturn, 1, [], [])]
def k_L_rank : List mE := [(0, .aload 4, 2, [], []), (2, .iconst 0, 1, [0], []), (3, .aload_n 0, 1, [], []), (4, .iload_n 1, 1, [], []), (5, .iload_n 2, 1, [], []), (6, .iload_n 3, 1, [], []), (7, .invokevirtual 19, 3, [4, 75, 5, 3, 17], []), (10, .i2l, 1, [], []), (11, .lastore, 1, [], []), (12, .goto 7, 3, [19, 0], []), (15, .astore 5, 2, [], []), (17, .iconst 1, 1, [1], []), (18, .ireturn, 1, [], []), (19, .iconst 0, 1, [0], []), (20, .ireturn, 1, [], [])]
def k_L_frame : List mE := [(0, .aload 5, 2, [], []), (2, .iconst 0, 1, [0], []), (3, .aload_n 0, 1, [], []), (4, .iload_n 1, 1, [], []), (5, .iload_n 2, 1, [], []), (6, .iload_n 3, 1, [], []), (7, .iload 4, 2, [], []), (9, .invokevirtual 23, 3, [5, 76, 6, 3, 19], []), (12, .i2l, 1, [], []), (13, .lastore, 1, [], []), (14, .goto 7, 3, [21, 0], []), (17, .astore 6, 2, [], []), (19, .iconst 1, 1, [1], []), (20, .ireturn, 1, [], []), (21, .iconst 0, 1, [0], []), (22, .ireturn, 1, [], [])]
def k_L_tally : List mE := [(0, .aload_n 3, 1, [], []), (1, .iconst 0, 1, [0], []), (2, .aload_n 0, 1, [], []), (3, .iload_n 1, 1, [], []), (4, .iload_n 2, 1, [], []), (5, .invokevirtual 27, 3, [3, 82, 3, 3, 15], []), (8, .i2l, 1, [], []), (9, .lastore, 1, [], []), (10, .goto 7, 3, [17, 0], []), (13, .astore 4, 2, [], []), (15, .iconst 1, 1, [1], []), (16, .ireturn, 1, [], []), (17, .iconst 0, 1, [0], []), (18, .ireturn, 1, [], [])]
def k_L_row : List mE := [(0, .aload_n 2, 1, [], []), (1, .iconst 0, 1, [0], []), (2, .aload_n 0, 1, [], []), (3, .iload_n 1, 1, [], []), (4, .invokevirtual 30, 3, [2, 100, 2, 4, 12], []), (7, .lastore, 1, [], []), (8, .goto 6, 3, [14, 0], []), (11, .astore_n 3, 1, [], []), (12, .iconst 1, 1, [1], []), (13, .ireturn, 1, [], []), (14, .iconst 0, 1, [0], []), (15, .ireturn, 1, [], [])]
def k_L_law : List mE := [(0, .new 8, 3, [], []), (3, .dup, 1, [], []), (4, .invokespecial 34, 3, [], []), (7, .astore_n 1, 1, [], []), (8, .new 35, 3, [], []), (11, .dup, 1, [], []), (12, .invokespecial 37, 3, [], []), (15, .astore_n 2, 1, [], []), (16, .iconst 1, 1, [1], []), (17, .newarray .long, 2, [], []), (19, .astore_n 3, 1, [], []), (20, .iconst 0, 1, [0], []), (21, .istore 4, 2, [], []), (23, .iload 4, 2, [], [1, 1, 1, 1, 1, 0, 0, 0]), (25, .aload_n 0, 1, [], []), (26, .arraylength, 1, [], []), (27, .bipush 6, 2, [6], []), (29, .isub, 1, [], []), (30, .if_icmp .gt 1405, 3, [1435, 0], []), (33, .aload_n 0, 1, [], []), (34, .iload 4, 2, [], []), (36, .iaload, 1, [], []), (37, .bipush 63, 2, [63], []), (39, .iand, 1, [], []), (40, .tableswitch 1389 0 35 #[160, 185, 210, 223, 260, 316, 389, 450, 475, 488, 556, 636, 728, 765, 778, 803, 840, 853, 921, 946, 983, 1008, 1021, 1034, 1071, 1108, 1145, 1158, 1171, 1196, 1209, 1222, 1259, 1284, 1309, 1334], 160, [1429, 200, 225, 250, 263, 300, 356, 429, 490, 515, 528, 596, 676, 768, 805, 818, 843, 880, 893, 961, 986, 1023, 1048, 1061, 1074, 1111, 1148, 1185, 1198, 1211, 1236, 1249, 1262, 1299, 1324, 1349, 1374], []), (200, .aload_n 1, 1, [], []), (201, .aload_n 0, 1, [], []), (202, .iload 4, 2, [], []), (204, .iconst 1, 1, [1], []), (205, .iadd, 1, [], []), (206, .iaload, 1, [], []), (207, .invokevirtual 38, 3, [2, 65, 2, 1], []), (210, .aload_n 2, 1, [], []), (211, .aload_n 0, 1, [], []), (212, .iload 4, 2, [], []), (214, .iconst 1, 1, [1], []), (215, .iadd, 1, [], []), (216, .iaload, 1, [], []), (217, .invokevirtual 41, 3, [2, 129, 3, 1], []), (220, .if_icmp .eq 1209, 3, [1429, 0], []), (223, .iconst 0, 1, [0], []), (224, .ireturn, 1, [1], []), (225, .aload_n 1, 1, [], []), (226, .aload_n 0, 1, [], []), (227, .iload 4, 2, [], []), (229, .iconst 1, 1, [1], []), (230, .iadd, 1, [], []), (231, .iaload, 1, [], []), (232, .invokevirtual 42, 3, [2, 66, 2, 1], []), (235, .aload_n 2, 1, [], []), (236, .aload_n 0, 1, [], []), (237, .iload 4, 2, [], []), (239, .iconst 1, 1, [1], []), (240, .iadd, 1, [], []), (241, .iaload, 1, [], []), (242, .invokevirtual 46, 3, [2, 130, 2, 1], []), (245, .if_icmp .eq 1184, 3, [1429, 0], []), (248, .iconst 0, 1, [0], []), (249, .ireturn, 1, [1], []), (250, .aload_n 1, 1, [], []), (251, .invokevirtual 47, 3, [1, 67, 4, 1], []), (254, .aload_n 2, 1, [], []), (255, .invokevirtual 51, 3, [1, 139, 5, 1], []), (258, .if_icmp .eq 1171, 3, [1429, 0], []), (261, .iconst 0, 1, [0], []), (262, .ireturn, 1, [1], []), (263, .aload_n 1, 1, [], []), (264, .aload_n 0, 1, [], []), (265, .iload 4, 2, [], []), (267, .iconst 1, 1, [1], []), (268, .iadd, 1, [], []), (269, .iaload, 1, [], []), (270, .aload_n 0, 1, [], []), (271, .iload 4, 2, [], []), (273, .iconst 2, 1, [2], []), (274, .iadd, 1, [], []), (275, .iaload, 1, [], []), (276, .invokevirtual 52, 3, [3, 68, 4, 1], []), (279, .aload_n 2, 1, [], []), (280, .aload_n 0, 1, [], []), (281, .iload 4, 2, [], []), (283, .iconst 1, 1, [1], []), (284, .iadd, 1, [], []), (285, .iaload, 1, [], []), (286, .aload_n 0, 1, [], []), (287, .iload 4, 2, [], []), (289, .iconst 2, 1, [2], []), (290, .iadd, 1, [], []), (291, .iaload, 1, [], []), (292, .invokevirtual 55, 3, [3, 141, 4, 1], []), (295, .if_icmp .eq 1134, 3, [1429, 0], []), (298, .iconst 0, 1, [0], []), (299, .ireturn, 1, [1], []), (300, .aload_n 1, 1, [], []), (301, .aload_n 0, 1, [], []), (302, .iload 4, 2, [], []), (304, .iconst 1, 1, [1], []), (305, .iadd, 1, [], []), (306, .iaload, 1, [], []), (307, .aload_n 3, 1, [], []), (308, .invokestatic 56, 3, [3, 219, 4, 1], []), (311, .istore 5, 2, [], []), (313, .aload_n 2, 1, [], []), (314, .aload_n 0, 1, [], []), (315, .iload 4, 2, [], []), (317, .iconst 1, 1, [1], []), (318, .iadd, 1, [], []), (319, .iaload, 1, [], []), (320, .invokevirtual 61, 3, [2, 142, 2, 1], []), (323, .istore 6, 2, [], []), (325, .aload_n 2, 1, [], []), (326, .invokevirtual 62, 3, [1, 114, 1, 1], []), (329, .iload 5, 2, [], []), (331, .if_icmp .eq 5, 3, [336, 0], []), (334, .iconst 0, 1, [0], []), (335, .ireturn, 1, [1], []), (336, .iload 5, 2, [], []), (338, .ifCond .ne 15, 3, [353, 0], []), (341, .aload_n 3, 1, [], []), (342, .iconst 0, 1, [0], []), (343, .laload, 1, [], []), (344, .iload 6, 2, [], []), (346, .i2l, 1, [], []), (347, .lcmp, 1, [], []), (348, .ifCond .eq 5, 3, [353, 0], []), (351, .iconst 0, 1, [0], []), (352, .ireturn, 1, [1], []), (353, .goto 1076, 3, [1429, 0], [1, 1, 1, 1, 1, 0, 0, 0]), (356, .aload_n 1, 1, [], []), (357, .aload_n 0, 1, [], []), (358, .iload 4, 2, [], []), (360, .iconst 1, 1, [1], []), (361, .iadd, 1, [], []), (362, .iaload, 1, [], []), (363, .aload_n 0, 1, [], []), (364, .iload 4, 2, [], []), (366, .iconst 2, 1, [2], []), (367, .iadd, 1, [], []), (368, .iaload, 1, [], []), (369, .aload_n 0, 1, [], []), (370, .iload 4, 2, [], []), (372, .iconst 3, 1, [3], []), (373, .iadd, 1, [], []), (374, .iaload, 1, [], []), (375, .aload_n 0, 1, [], []), (376, .iload 4, 2, [], []), (378, .iconst 4, 1, [4], []), (379, .iadd, 1, [], []), (380, .iaload, 1, [], []), (381, .aload_n 0, 1, [], []), (382, .iload 4, 2, [], []), (384, .iconst 5, 1, [5], []), (385, .iadd, 1, [], []), (386, .iaload, 1, [], []), (387, .invokevirtual 65, 3, [6, 70, 8, 1], []), (390, .aload_n 2, 1, [], []), (391, .aload_n 0, 1, [], []), (392, .iload 4, 2, [], []), (394, .iconst 1, 1, [1], []), (395, .iadd, 1, [], []), (396, .iaload, 1, [], []), (397, .aload_n 0, 1, [], []), (398, .iload 4, 2, [], []), (400, .iconst 2, 1, [2], []), (401, .iadd, 1, [], []), (402, .iaload, 1, [], []), (403, .aload_n 0, 1, [], []), (404, .iload 4, 2, [], []), (406, .iconst 3, 1, [3], []), (407, .iadd, 1, [], []), (408, .iaload, 1, [], []), (409, .aload_n 0, 1, [], []), (410, .iload 4, 2, [], []), (412, .iconst 4, 1, [4], []), (413, .iadd, 1, [], []), (414, .iaload, 1, [], []), (415, .aload_n 0, 1, [], []), (416, .iload 4, 2, [], []), (418, .iconst 5, 1, [5], []), (419, .iadd, 1, [], []), (420, .iaload, 1, [], []), (421, .invokevirtual 69, 3, [6, 144, 11, 1], []), (424, .if_icmp .eq 1005, 3, [1429, 0], []), (427, .iconst 0, 1, [0], []), (428, .ireturn, 1, [1], []), (429, .aload_n 1, 1, [], []), (430, .aload_n 0, 1, [], []), (431, .iload 4, 2, [], []), (433, .iconst 1, 1, [1], []), (434, .iadd, 1, [], []), (435, .iaload, 1, [], []), (436, .aload_n 0, 1, [], []), (437, .iload 4, 2, [], []), (439, .iconst 2, 1, [2], []), (440, .iadd, 1, [], []), (441, .iaload, 1, [], []), (442, .aload_n 0, 1, [], []), (443, .iload 4, 2, [], []), (445, .iconst 3, 1, [3], []), (446, .iadd, 1, [], []), (447, .iaload, 1, [], []), (448, .aload_n 0, 1, [], []), (449, .iload 4, 2, [], []), (451, .iconst 4, 1, [4], []), (452, .iadd, 1, [], []), (453, .iaload, 1, [], []), (454, .invokevirtual 70, 3, [5, 71, 6, 1], []), (457, .aload_n 2, 1, [], []), (458, .aload_n 0, 1, [], []), (459, .iload 4, 2, [], []), (461, .iconst 1, 1, [1], []), (462, .iadd, 1, [], []), (463, .iaload, 1, [], []), (464, .aload_n 0, 1, [], []), (465, .iload 4, 2, [], []), (467, .iconst 2, 1, [2], []), (468, .iadd, 1, [], []), (469, .iaload, 1, [], []), (470, .aload_n 0, 1, [], []), (471, .iload 4, 2, [], []), (473, .iconst 3, 1, [3], []), (474, .iadd, 1, [], []), (475, .iaload, 1, [], []), (476, .aload_n 0, 1, [], []), (477, .iload 4, 2, [], []), (479, .iconst 4, 1, [4], []), (480, .iadd, 1, [], []), (481, .iaload, 1, [], []), (482, .invokevirtual 73, 3, [5, 148, 6, 1], []), (485, .if_icmp .eq 944, 3, [1429, 0], []), (488, .iconst 0, 1, [0], []), (489, .ireturn, 1, [1], []), (490, .aload_n 1, 1, [], []), (491, .aload_n 0, 1, [], []), (492, .iload 4, 2, [], []), (494, .iconst 1, 1, [1], []), (495, .iadd, 1, [], []), (496, .iaload, 1, [], []), (497, .invokevirtual 74, 3, [2, 72, 7, 1], []), (500, .aload_n 2, 1, [], []), (501, .aload_n 0, 1, [], []), (502, .iload 4, 2, [], []), (504, .iconst 1, 1, [1], []), (505, .iadd, 1, [], []), (506, .iaload, 1, [], []), (507, .invokevirtual 77, 3, [2, 172, 6, 1], []), (510, .if_icmp .eq 919, 3, [1429, 0], []), (513, .iconst 0, 1, [0], []), (514, .ireturn, 1, [1], []), (515, .aload_n 1, 1, [], []), (516, .invokevirtual 78, 3, [1, 73, 1, 1], []), (519, .aload_n 2, 1, [], []), (520, .invokevirtual 81, 3, [1, 174, 1, 1], []), (523, .if_icmp .eq 906, 3, [1429, 0], []), (526, .iconst 0, 1, [0], []), (527, .ireturn, 1, [1], []), (528, .aload_n 1, 1, [], []), (529, .aload_n 0, 1, [], []), (530, .iload 4, 2, [], []), (532, .iconst 1, 1, [1], []), (533, .iadd, 1, [], []), (534, .iaload, 1, [], []), (535, .aload_n 0, 1, [], []), (536, .iload 4, 2, [], []), (538, .iconst 2, 1, [2], []), (539, .iadd, 1, [], []), (540, .iaload, 1, [], []), (541, .aload_n 3, 1, [], []), (542, .invokestatic 82, 3, [4, 220, 5, 1], []), (545, .istore 5, 2, [], []), (547, .aload_n 2, 1, [], []), (548, .aload_n 0, 1, [], []), (549, .iload 4, 2, [], []), (551, .iconst 1, 1, [1], []), (552, .iadd, 1, [], []), (553, .iaload, 1, [], []), (554, .aload_n 0, 1, [], []), (555, .iload 4, 2, [], []), (557, .iconst 2, 1, [2], []), (558, .iadd, 1, [], []), (559, .iaload, 1, [], []), (560, .invokevirtual 85, 3, [3, 178, 3, 1], []), (563, .istore 6, 2, [], []), (565, .aload_n 2, 1, [], []), (566, .invokevirtual 62, 3, [1, 114, 1, 1], []), (569, .iload 5, 2, [], []), (571, .if_icmp .eq 5, 3, [576, 0], []), (574, .iconst 0, 1, [0], []), (575, .ireturn, 1, [1], []), (576, .iload 5, 2, [], []), (578, .ifCond .ne 15, 3, [593, 0], []), (581, .aload_n 3, 1, [], []), (582, .iconst 0, 1, [0], []), (583, .laload, 1, [], []), (584, .iload 6, 2, [], []), (586, .i2l, 1, [], []), (587, .lcmp, 1, [], []), (588, .ifCond .eq 5, 3, [593, 0], []), (591, .iconst 0, 1, [0], []), (592, .ireturn, 1, [1], []), (593, .goto 836, 3, [1429, 0], [1, 1, 1, 1, 1, 0, 0, 0]), (596, .aload_n 1, 1, [], []), (597, .aload_n 0, 1, [], []), (598, .iload 4, 2, [], []), (600, .iconst 1, 1, [1], []), (601, .iadd, 1, [], []), (602, .iaload, 1, [], []), (603, .aload_n 0, 1, [], []), (604, .iload 4, 2, [], []), (606, .iconst 2, 1, [2], []), (607, .iadd, 1, [], []), (608, .iaload, 1, [], []), (609, .aload_n 0, 1, [], []), (610, .iload 4, 2, [], []), (612, .iconst 3, 1, [3], []), (613, .iadd, 1, [], []), (614, .iaload, 1, [], []), (615, .aload_n 3, 1, [], []), (616, .invokestatic 86, 3, [5, 221, 6, 1], []), (619, .istore 5, 2, [], []), (621, .aload_n 2, 1, [], []), (622, .aload_n 0, 1, [], []), (623, .iload 4, 2, [], []), (625, .iconst 1, 1, [1], []), (626, .iadd, 1, [], []), (627, .iaload, 1, [], []), (628, .aload_n 0, 1, [], []), (629, .iload 4, 2, [], []), (631, .iconst 2, 1, [2], []), (632, .iadd, 1, [], []), (633, .iaload, 1, [], []), (634, .aload_n 0, 1, [], []), (635, .iload 4, 2, [], []), (637, .iconst 3, 1, [3], []), (638, .iadd, 1, [], []), (639, .iaload, 1, [], []), (640, .invokevirtual 89, 3, [4, 179, 4, 1], []), (643, .istore 6, 2, [], []), (645, .aload_n 2, 1, [], []), (646, .invokevirtual 62, 3, [1, 114, 1, 1], []), (649, .iload 5, 2, [], []), (651, .if_icmp .eq 5, 3, [656, 0], []), (654, .iconst 0, 1, [0], []), (655, .ireturn, 1, [1], []), (656, .iload 5, 2, [], []), (658, .ifCond .ne 15, 3, [673, 0], []), (661, .aload_n 3, 1, [], []), (662, .iconst 0, 1, [0], []), (663, .laload, 1, [], []), (664, .iload 6, 2, [], []), (666, .i2l, 1, [], []), (667, .lcmp, 1, [], []), (668, .ifCond .eq 5, 3, [673, 0], []), (671, .iconst 0, 1, [0], []), (672, .ireturn, 1, [1], []), (673, .goto 756, 3, [1429, 0], [1, 1, 1, 1, 1, 0, 0, 0]), (676, .aload_n 1, 1, [], []), (677, .aload_n 0, 1, [], []), (678, .iload 4, 2, [], []), (680, .iconst 1, 1, [1], []), (681, .iadd, 1, [], []), (682, .iaload, 1, [], []), (683, .aload_n 0, 1, [], []), (684, .iload 4, 2, [], []), (686, .iconst 2, 1, [2], []), (687, .iadd, 1, [], []), (688, .iaload, 1, [], []), (689, .aload_n 0, 1, [], []), (690, .iload 4, 2, [], []), (692, .iconst 3, 1, [3], []), (693, .iadd, 1, [], []), (694, .iaload, 1, [], []), (695, .aload_n 0, 1, [], []), (696, .iload 4, 2, [], []), (698, .iconst 4, 1, [4], []), (699, .iadd, 1, [], []), (700, .iaload, 1, [], []), (701, .aload_n 3, 1, [], []), (702, .invokestatic 90, 3, [6, 222, 7, 1], []), (705, .istore 5, 2, [], []), (707, .aload_n 2, 1, [], []), (708, .aload_n 0, 1, [], []), (709, .iload 4, 2, [], []), (711, .iconst 1, 1, [1], []), (712, .iadd, 1, [], []), (713, .iaload, 1, [], []), (714, .aload_n 0, 1, [], []), (715, .iload 4, 2, [], []), (717, .iconst 2, 1, [2], []), (718, .iadd, 1, [], []), (719, .iaload, 1, [], []), (720, .aload_n 0, 1, [], []), (721, .iload 4, 2, [], []), (723, .iconst 3, 1, [3], []), (724, .iadd, 1, [], []), (725, .iaload, 1, [], []), (726, .aload_n 0, 1, [], []), (727, .iload 4, 2, [], []), (729, .iconst 4, 1, [4], []), (730, .iadd, 1, [], []), (731, .iaload, 1, [], []), (732, .invokevirtual 93, 3, [5, 180, 5, 1], []), (735, .istore 6, 2, [], []), (737, .aload_n 2, 1, [], []), (738, .invokevirtual 62, 3, [1, 114, 1, 1], []), (741, .iload 5, 2, [], []), (743, .if_icmp .eq 5, 3, [748, 0], []), (746, .iconst 0, 1, [0], []), (747, .ireturn, 1, [1], []), (748, .iload 5, 2, [], []), (750, .ifCond .ne 15, 3, [765, 0], []), (753, .aload_n 3, 1, [], []), (754, .iconst 0, 1, [0], []), (755, .laload, 1, [], []), (756, .iload 6, 2, [], []), (758, .i2l, 1, [], []), (759, .lcmp, 1, [], []), (760, .ifCond .eq 5, 3, [765, 0], []), (763, .iconst 0, 1, [0], []), (764, .ireturn, 1, [1], []), (765, .goto 664, 3, [1429, 0], [1, 1, 1, 1, 1, 0, 0, 0]), (768, .aload_n 1, 1, [], []), (769, .aload_n 0, 1, [], []), (770, .iload 4, 2, [], []), (772, .iconst 1, 1, [1], []), (773, .iadd, 1, [], []), (774, .iaload, 1, [], []), (775, .aload_n 0, 1, [], []), (776, .iload 4, 2, [], []), (778, .iconst 2, 1, [2], []), (779, .iadd, 1, [], []), (780, .iaload, 1, [], []), (781, .invokevirtual 94, 3, [3, 77, 4, 1], []), (784, .aload_n 2, 1, [], []), (785, .aload_n 0, 1, [], []), (786, .iload 4, 2, [], []), (788, .iconst 1, 1, [1], []), (789, .iadd, 1, [], []), (790, .iaload, 1, [], []), (791, .aload_n 0, 1, [], []), (792, .iload 4, 2, [], []), (794, .iconst 2, 1, [2], []), (795, .iadd, 1, [], []), (796, .iaload, 1, [], []), (797, .invokevirtual 97, 3, [3, 181, 4, 1], []), (800, .if_icmp .eq 629, 3, [1429, 0], []), (803, .iconst 0, 1, [0], []), (804, .ireturn, 1, [1], []), (805, .aload_n 1, 1, [], []), (806, .invokevirtual 98, 3, [1, 78, 1, 1], []), (809, .aload_n 2, 1, [], []), (810, .invokevirtual 101, 3, [1, 183, 1, 1], []), (813, .if_icmp .eq 616, 3, [1429, 0], []), (816, .iconst 0, 1, [0], []), (817, .ireturn, 1, [1], []), (818, .aload_n 1, 1, [], []), (819, .aload_n 0, 1, [], []), (820, .iload 4, 2, [], []), (822, .iconst 1, 1, [1], []), (823, .iadd, 1, [], []), (824, .iaload, 1, [], []), (825, .invokevirtual 102, 3, [2, 79, 3, 1], []), (828, .aload_n 2, 1, [], []), (829, .aload_n 0, 1, [], []), (830, .iload 4, 2, [], []), (832, .iconst 1, 1, [1], []), (833, .iadd, 1, [], []), (834, .iaload, 1, [], []), (835, .invokevirtual 105, 3, [2, 184, 2, 1], []), (838, .if_icmp .eq 591, 3, [1429, 0], []), (841, .iconst 0, 1, [0], []), (842, .ireturn, 1, [1], []), (843, .aload_n 1, 1, [], []), (844, .aload_n 0, 1, [], []), (845, .iload 4, 2, [], []), (847, .iconst 1, 1, [1], []), (848, .iadd, 1, [], []), (849, .iaload, 1, [], []), (850, .aload_n 0, 1, [], []), (851, .iload 4, 2, [], []), (853, .iconst 2, 1, [2], []), (854, .iadd, 1, [], []), (855, .iaload, 1, [], []), (856, .invokevirtual 106, 3, [3, 80, 4, 1], []), (859, .aload_n 2, 1, [], []), (860, .aload_n 0, 1, [], []), (861, .iload 4, 2, [], []), (863, .iconst 1, 1, [1], []), (864, .iadd, 1, [], []), (865, .iaload, 1, [], []), (866, .aload_n 0, 1, [], []), (867, .iload 4, 2, [], []), (869, .iconst 2, 1, [2], []), (870, .iadd, 1, [], []), (871, .iaload, 1, [], []), (872, .invokevirtual 109, 3, [3, 185, 3, 1], []), (875, .if_icmp .eq 554, 3, [1429, 0], []), (878, .iconst 0, 1, [0], []), (879, .ireturn, 1, [1], []), (880, .aload_n 1, 1, [], []), (881, .invokevirtual 110, 3, [1, 81, 4, 1], []), (884, .aload_n 2, 1, [], []), (885, .invokevirtual 113, 3, [1, 186, 3, 1], []), (888, .if_icmp .eq 541, 3, [1429, 0], []), (891, .iconst 0, 1, [0], []), (892, .ireturn, 1, [1], []), (893, .aload_n 1, 1, [], []), (894, .aload_n 0, 1, [], []), (895, .iload 4, 2, [], []), (897, .iconst 1, 1, [1], []), (898, .iadd, 1, [], []), (899, .iaload, 1, [], []), (900, .aload_n 0, 1, [], []), (901, .iload 4, 2, [], []), (903, .iconst 2, 1, [2], []), (904, .iadd, 1, [], []), (905, .iaload, 1, [], []), (906, .aload_n 3, 1, [], []), (907, .invokestatic 114, 3, [4, 223, 5, 1], []), (910, .istore 5, 2, [], []), (912, .aload_n 2, 1, [], []), (913, .aload_n 0, 1, [], []), (914, .iload 4, 2, [], []), (916, .iconst 1, 1, [1], []), (917, .iadd, 1, [], []), (918, .iaload, 1, [], []), (919, .aload_n 0, 1, [], []), (920, .iload 4, 2, [], []), (922, .iconst 2, 1, [2], []), (923, .iadd, 1, [], []), (924, .iaload, 1, [], []), (925, .invokevirtual 116, 3, [3, 187, 3, 1], []), (928, .istore 6, 2, [], []), (930, .aload_n 2, 1, [], []), (931, .invokevirtual 62, 3, [1, 114, 1, 1], []), (934, .iload 5, 2, [], []), (936, .if_icmp .eq 5, 3, [941, 0], []), (939, .iconst 0, 1, [0], []), (940, .ireturn, 1, [1], []), (941, .iload 5, 2, [], []), (943, .ifCond .ne 15, 3, [958, 0], []), (946, .aload_n 3, 1, [], []), (947, .iconst 0, 1, [0], []), (948, .laload, 1, [], []), (949, .iload 6, 2, [], []), (951, .i2l, 1, [], []), (952, .lcmp, 1, [], []), (953, .ifCond .eq 5, 3, [958, 0], []), (956, .iconst 0, 1, [0], []), (957, .ireturn, 1, [1], []), (958, .goto 471, 3, [1429, 0], [1, 1, 1, 1, 1, 0, 0, 0]), (961, .aload_n 1, 1, [], []), (962, .aload_n 0, 1, [], []), (963, .iload 4, 2, [], []), (965, .iconst 1, 1, [1], []), (966, .iadd, 1, [], []), (967, .iaload, 1, [], []), (968, .invokevirtual 117, 3, [2, 83, 3, 1], []), (971, .aload_n 2, 1, [], []), (972, .aload_n 0, 1, [], []), (973, .iload 4, 2, [], []), (975, .iconst 1, 1, [1], []), (976, .iadd, 1, [], []), (977, .iaload, 1, [], []), (978, .invokevirtual 120, 3, [2, 189, 2, 1], []), (981, .if_icmp .eq 448, 3, [1429, 0], []), (984, .iconst 0, 1, [0], []), (985, .ireturn, 1, [1], []), (986, .aload_n 1, 1, [], []), (987, .aload_n 0, 1, [], []), (988, .iload 4, 2, [], []), (990, .iconst 1, 1, [1], []), (991, .iadd, 1, [], []), (992, .iaload, 1, [], []), (993, .aload_n 0, 1, [], []), (994, .iload 4, 2, [], []), (996, .iconst 2, 1, [2], []), (997, .iadd, 1, [], []), (998, .iaload, 1, [], []), (999, .invokevirtual 121, 3, [3, 84, 4, 1], []), (1002, .aload_n 2, 1, [], []), (1003, .aload_n 0, 1, [], []), (1004, .iload 4, 2, [], []), (1006, .iconst 1, 1, [1], []), (1007, .iadd, 1, [], []), (1008, .iaload, 1, [], []), (1009, .aload_n 0, 1, [], []), (1010, .iload 4, 2, [], []), (1012, .iconst 2, 1, [2], []), (1013, .iadd, 1, [], []), (1014, .iaload, 1, [], []), (1015, .invokevirtual 124, 3, [3, 190, 3, 1], []), (1018, .if_icmp .eq 411, 3, [1429, 0], []), (1021, .iconst 0, 1, [0], []), (1022, .ireturn, 1, [1], []), (1023, .aload_n 1, 1, [], []), (1024, .aload_n 0, 1, [], []), (1025, .iload 4, 2, [], []), (1027, .iconst 1, 1, [1], []), (1028, .iadd, 1, [], []), (1029, .iaload, 1, [], []), (1030, .invokevirtual 125, 3, [2, 85, 3, 1], []), (1033, .aload_n 2, 1, [], []), (1034, .aload_n 0, 1, [], []), (1035, .iload 4, 2, [], []), (1037, .iconst 1, 1, [1], []), (1038, .iadd, 1, [], []), (1039, .iaload, 1, [], []), (1040, .invokevirtual 128, 3, [2, 188, 4, 1], []), (1043, .if_icmp .eq 386, 3, [1429, 0], []), (1046, .iconst 0, 1, [0], []), (1047, .ireturn, 1, [1], []), (1048, .aload_n 1, 1, [], []), (1049, .invokevirtual 129, 3, [1, 86, 8, 1], []), (1052, .aload_n 2, 1, [], []), (1053, .invokevirtual 132, 3, [1, 191, 8, 1], []), (1056, .if_icmp .eq 373, 3, [1429, 0], []), (1059, .iconst 0, 1, [0], []), (1060, .ireturn, 1, [1], []), (1061, .aload_n 1, 1, [], []), (1062, .invokevirtual 133, 3, [1, 87, 1, 1], []), (1065, .aload_n 2, 1, [], []), (1066, .invokevirtual 136, 3, [1, 192, 1, 1], []), (1069, .if_icmp .eq 360, 3, [1429, 0], []), (1072, .iconst 0, 1, [0], []), (1073, .ireturn, 1, [1], []), (1074, .aload_n 1, 1, [], []), (1075, .aload_n 0, 1, [], []), (1076, .iload 4, 2, [], []), (1078, .iconst 1, 1, [1], []), (1079, .iadd, 1, [], []), (1080, .iaload, 1, [], []), (1081, .aload_n 0, 1, [], []), (1082, .iload 4, 2, [], []), (1084, .iconst 2, 1, [2], []), (1085, .iadd, 1, [], []), (1086, .iaload, 1, [], []), (1087, .invokevirtual 137, 3, [3, 88, 3, 1], []), (1090, .aload_n 2, 1, [], []), (1091, .aload_n 0, 1, [], []), (1092, .iload 4, 2, [], []), (1094, .iconst 1, 1, [1], []), (1095, .iadd, 1, [], []), (1096, .iaload, 1, [], []), (1097, .aload_n 0, 1, [], []), (1098, .iload 4, 2, [], []), (1100, .iconst 2, 1, [2], []), (1101, .iadd, 1, [], []), (1102, .iaload, 1, [], []), (1103, .invokevirtual 140, 3, [3, 195, 6, 1], []), (1106, .if_icmp .eq 323, 3, [1429, 0], []), (1109, .iconst 0, 1, [0], []), (1110, .ireturn, 1, [1], []), (1111, .aload_n 1, 1, [], []), (1112, .aload_n 0, 1, [], []), (1113, .iload 4, 2, [], []), (1115, .iconst 1, 1, [1], []), (1116, .iadd, 1, [], []), (1117, .iaload, 1, [], []), (1118, .aload_n 0, 1, [], []), (1119, .iload 4, 2, [], []), (1121, .iconst 2, 1, [2], []), (1122, .iadd, 1, [], []), (1123, .iaload, 1, [], []), (1124, .invokevirtual 141, 3, [3, 89, 4, 1], []), (1127, .aload_n 2, 1, [], []), (1128, .aload_n 0, 1, [], []), (1129, .iload 4, 2, [], []), (1131, .iconst 1, 1, [1], []), (1132, .iadd, 1, [], []), (1133, .iaload, 1, [], []), (1134, .aload_n 0, 1, [], []), (1135, .iload 4, 2, [], []), (1137, .iconst 2, 1, [2], []), (1138, .iadd, 1, [], []), (1139, .iaload, 1, [], []), (1140, .invokevirtual 144, 3, [3, 196, 4, 1], []), (1143, .if_icmp .eq 286, 3, [1429, 0], []), (1146, .iconst 0, 1, [0], []), (1147, .ireturn, 1, [1], []), (1148, .aload_n 1, 1, [], []), (1149, .aload_n 0, 1, [], []), (1150, .iload 4, 2, [], []), (1152, .iconst 1, 1, [1], []), (1153, .iadd, 1, [], []), (1154, .iaload, 1, [], []), (1155, .aload_n 0, 1, [], []), (1156, .iload 4, 2, [], []), (1158, .iconst 2, 1, [2], []), (1159, .iadd, 1, [], []), (1160, .iaload, 1, [], []), (1161, .invokevirtual 145, 3, [3, 90, 4, 1], []), (1164, .aload_n 2, 1, [], []), (1165, .aload_n 0, 1, [], []), (1166, .iload 4, 2, [], []), (1168, .iconst 1, 1, [1], []), (1169, .iadd, 1, [], []), (1170, .iaload, 1, [], []), (1171, .aload_n 0, 1, [], []), (1172, .iload 4, 2, [], []), (1174, .iconst 2, 1, [2], []), (1175, .iadd, 1, [], []), (1176, .iaload, 1, [], []), (1177, .invokevirtual 148, 3, [3, 199, 4, 1], []), (1180, .if_icmp .eq 249, 3, [1429, 0], []), (1183, .iconst 0, 1, [0], []), (1184, .ireturn, 1, [1], []), (1185, .aload_n 1, 1, [], []), (1186, .invokevirtual 149, 3, [1, 91, 2, 1], []), (1189, .aload_n 2, 1, [], []), (1190, .invokevirtual 152, 3, [1, 201, 4, 1], []), (1193, .if_icmp .eq 236, 3, [1429, 0], []), (1196, .iconst 0, 1, [0], []), (1197, .ireturn, 1, [1], []), (1198, .aload_n 1, 1, [], []), (1199, .invokevirtual 153, 3, [1, 92, 2, 1], []), (1202, .aload_n 2, 1, [], []), (1203, .invokevirtual 156, 3, [1, 202, 3, 1], []), (1206, .if_icmp .eq 223, 3, [1429, 0], []), (1209, .iconst 0, 1, [0], []), (1210, .ireturn, 1, [1], []), (1211, .aload_n 1, 1, [], []), (1212, .aload_n 0, 1, [], []), (1213, .iload 4, 2, [], []), (1215, .iconst 1, 1, [1], []), (1216, .iadd, 1, [], []), (1217, .iaload, 1, [], []), (1218, .invokevirtual 157, 3, [2, 93, 6, 1], []), (1221, .aload_n 2, 1, [], []), (1222, .aload_n 0, 1, [], []), (1223, .iload 4, 2, [], []), (1225, .iconst 1, 1, [1], []), (1226, .iadd, 1, [], []), (1227, .iaload, 1, [], []), (1228, .invokevirtual 160, 3, [2, 204, 6, 1], []), (1231, .if_icmp .eq 198, 3, [1429, 0], []), (1234, .iconst 0, 1, [0], []), (1235, .ireturn, 1, [1], []), (1236, .aload_n 1, 1, [], []), (1237, .invokevirtual 161, 3, [1, 94, 6, 1], []), (1240, .aload_n 2, 1, [], []), (1241, .invokevirtual 164, 3, [1, 207, 4, 1], []), (1244, .if_icmp .eq 185, 3, [1429, 0], []), (1247, .iconst 0, 1, [0], []), (1248, .ireturn, 1, [1], []), (1249, .aload_n 1, 1, [], []), (1250, .invokevirtual 165, 3, [1, 95, 1, 1], []), (1253, .aload_n 2, 1, [], []), (1254, .invokevirtual 168, 3, [1, 210, 2, 1], []), (1257, .if_icmp .eq 172, 3, [1429, 0], []), (1260, .iconst 0, 1, [0], []), (1261, .ireturn, 1, [1], []), (1262, .aload_n 1, 1, [], []), (1263, .aload_n 0, 1, [], []), (1264, .iload 4, 2, [], []), (1266, .iconst 1, 1, [1], []), (1267, .iadd, 1, [], []), (1268, .iaload, 1, [], []), (1269, .aload_n 0, 1, [], []), (1270, .iload 4, 2, [], []), (1272, .iconst 2, 1, [2], []), (1273, .iadd, 1, [], []), (1274, .iaload, 1, [], []), (1275, .invokevirtual 169, 3, [3, 96, 6, 1], []), (1278, .aload_n 2, 1, [], []), (1279, .aload_n 0, 1, [], []), (1280, .iload 4, 2, [], []), (1282, .iconst 1, 1, [1], []), (1283, .iadd, 1, [], []), (1284, .iaload, 1, [], []), (1285, .aload_n 0, 1, [], []), (1286, .iload 4, 2, [], []), (1288, .iconst 2, 1, [2], []), (1289, .iadd, 1, [], []), (1290, .iaload, 1, [], []), (1291, .invokevirtual 172, 3, [3, 212, 8, 1], []), (1294, .if_icmp .eq 135, 3, [1429, 0], []), (1297, .iconst 0, 1, [0], []), (1298, .ireturn, 1, [1], []), (1299, .aload_n 1, 1, [], []), (1300, .aload_n 0, 1, [], []), (1301, .iload 4, 2, [], []), (1303, .iconst 1, 1, [1], []), (1304, .iadd, 1, [], []), (1305, .iaload, 1, [], []), (1306, .invokevirtual 173, 3, [2, 97, 2, 1], []), (1309, .aload_n 2, 1, [], []), (1310, .aload_n 0, 1, [], []), (1311, .iload 4, 2, [], []), (1313, .iconst 1, 1, [1], []), (1314, .iadd, 1, [], []), (1315, .iaload, 1, [], []), (1316, .invokevirtual 176, 3, [2, 213, 3, 1], []), (1319, .if_icmp .eq 110, 3, [1429, 0], []), (1322, .iconst 0, 1, [0], []), (1323, .ireturn, 1, [1], []), (1324, .aload_n 1, 1, [], []), (1325, .aload_n 0, 1, [], []), (1326, .iload 4, 2, [], []), (1328, .iconst 1, 1, [1], []), (1329, .iadd, 1, [], []), (1330, .iaload, 1, [], []), (1331, .invokevirtual 177, 3, [2, 98, 2, 1], []), (1334, .aload_n 2, 1, [], []), (1335, .aload_n 0, 1, [], []), (1336, .iload 4, 2, [], []), (1338, .iconst 1, 1, [1], []), (1339, .iadd, 1, [], []), (1340, .iaload, 1, [], []), (1341, .invokevirtual 180, 3, [2, 214, 3, 1], []), (1344, .if_icmp .eq 85, 3, [1429, 0], []), (1347, .iconst 0, 1, [0], []), (1348, .ireturn, 1, [1], []), (1349, .aload_n 1, 1, [], []), (1350, .aload_n 0, 1, [], []), (1351, .iload 4, 2, [], []), (1353, .iconst 1, 1, [1], []), (1354, .iadd, 1, [], []), (1355, .iaload, 1, [], []), (1356, .invokevirtual 181, 3, [2, 99, 2, 1], []), (1359, .aload_n 2, 1, [], []), (1360, .aload_n 0, 1, [], []), (1361, .iload 4, 2, [], []), (1363, .iconst 1, 1, [1], []), (1364, .iadd, 1, [], []), (1365, .iaload, 1, [], []), (1366, .invokevirtual 184, 3, [2, 216, 2, 1], []), (1369, .if_icmp .eq 60, 3, [1429, 0], []), (1372, .iconst 0, 1, [0], []), (1373, .ireturn, 1, [1], []), (1374, .aload_n 1, 1, [], []), (1375, .aload_n 0, 1, [], []), (1376, .iload 4, 2, [], []), (1378, .iconst 1, 1, [1], []), (1379, .iadd, 1, [], []), (1380, .iaload, 1, [], []), (1381, .aload_n 3, 1, [], []), (1382, .invokestatic 185, 3, [3, 224, 4, 1], []), (1385, .istore 5, 2, [], []), (1387, .aload_n 2, 1, [], []), (1388, .aload_n 0, 1, [], []), (1389, .iload 4, 2, [], []), (1391, .iconst 1, 1, [1], []), (1392, .iadd, 1, [], []), (1393, .iaload, 1, [], []), (1394, .invokevirtual 187, 3, [2, 217, 2, 2], []), (1397, .lstore 6, 2, [], []), (1399, .aload_n 2, 1, [], []), (1400, .invokevirtual 62, 3, [1, 114, 1, 1], []), (1403, .iload 5, 2, [], []), (1405, .if_icmp .eq 5, 3, [1410, 0], []), (1408, .iconst 0, 1, [0], []), (1409, .ireturn, 1, [1], []), (1410, .iload 5, 2, [], []), (1412, .ifCond .ne 14, 3, [1426, 0], []), (1415, .aload_n 3, 1, [], []), (1416, .iconst 0, 1, [0], []), (1417, .laload, 1, [], []), (1418, .lload 6, 2, [], []), (1420, .lcmp, 1, [], []), (1421, .ifCond .eq 5, 3, [1426, 0], []), (1424, .iconst 0, 1, [0], []), (1425, .ireturn, 1, [1], []), (1426, .goto 3, 3, [1429, 0], [1, 1, 1, 1, 1, 0, 0, 0]), (1429, .iinc 4 6, 3, [], [1, 1, 1, 1, 1, 0, 0, 0]), (1432, .goto (-1409), 3, [23, 1, 1, 1, 1, 1, 1, 0, 0, 0], []), (1435, .iconst 1, 1, [1], []), (1436, .ireturn, 1, [1], [])]
def mtab : List (List mE) := [k_X0_become, k_X0_startAnew, k_X0_startStation, k_X0_hear, k_X0_sumOf, k_X0_waiting, k_X0_exchangesOn, k_X0_emptyQueues, k_X0_whyNotOffer, k_X0_takeFrame, k_X0_markLast, k_X0_drawAll, k_X0_isReady, k_X0_passSlot, k_X0_runningSpans, k_X0_beginOf, k_X0_beginExchange, k_X0_placesOf, k_X0_senders, k_X0_sendsNow, k_X0_isClear, k_X0_clearOnes, k_X0_noteSlot, k_X0_spread, k_X0_goAsk, k_X0_goGrant, k_X0_goData, k_X0_noteSpoilt, k_X0_goPlace, k_X0_goAnswer, k_X0_deliver, k_X0_failExchange, k_X0_failFirst, k_X0_settle, k_X1_draw, k_X2_become, k_X2_sends, k_X3_become, k_X3_startAnew, k_X3_delivered, k_X4_forget, k_X4_add, k_X4_tellOne, k_X4_tellTwo, k_X4_tellThree, k_X4_tellPart, k_X5_push, k_X5_popInto, k_X6_become, k_X6_fieldOf, k_X6_addLast, k_X6_tryAgain, k_X6_removeAt, k_X6_alikeAtFirst, k_X7_addFour, k_X7_cutTo, k_X7_at, k_X7_digitAt, k_X7_letterAt, k_X8_become, k_X8_isFree, k_X8_waiting, k_X8_setOwing, k_X8_pays, k_X8_listen, k_X9_sign, k_X9_end, k_X9_net, k_X9_sets, k_X9_setting, k_X9_sheet, k_X9_offers, k_X9_slots, k_X9_draws, k_X9_station, k_X9_rank, k_X9_frame, k_X9_exchange, k_X9_sent, k_X9_spanOf, k_X9_rate, k_X9_hidden, k_X9_tally, k_X9_why, k_X9_spoilt, k_X9_held, k_X9_even, k_X9_busy, k_X9_odds, k_X9_window, k_X9_ahead, k_X9_quiet, k_X9_next, k_X9_soonest, k_X9_day, k_X9_undo, k_X9_years, k_X9_keep, k_X9_again, k_X9_count, k_X9_row, k_X9_isStation, k_X9_isRank, k_X9_readPairs, k_X9_entryOf, k_X9_comesFromEntry, k_X9_waysAlone, k_X9_power, k_X9_slotsTillDelivered, k_X9_actLength, k_X9_faultInDay, k_X9_faultInAct, k_X9_doAct, k_X9_offerDrawn, k_X10_thrown, k_X10_in, k_X10_has, k_X10_lost, k_X10_tell, k_X10_common, k_X10_commonLong, k_X10_isStation, k_X10_isRank, k_X10_quality, k_X10_hears, k_X10_at, k_X10_frameAt, k_X10_exchangeAt, k_X10_draw, k_X10_sign, k_X10_end, k_X10_begin, k_X10_here, k_X10_fine, k_X10_fault, k_X10_oneOf, k_X10_twoDigits, k_X10_wasRight, k_X10_readPair, k_X10_net, k_X10_highOf, k_X10_sets, k_X10_setting, k_X10_goesOn, k_X10_sheet, k_X10_put, k_X10_leaves, k_X10_refusesOffer, k_X10_offers, k_X10_isFree, k_X10_isReady, k_X10_had, k_X10_drawsCount, k_X10_isLost, k_X10_fails, k_X10_roundedUp, k_X10_begins, k_X10_stepBegin, k_X10_stepSend, k_X10_hearsOthers, k_X10_isClear, k_X10_spans, k_X10_owes, k_X10_sendsIt, k_X10_failsBy, k_X10_stepData, k_X10_delivers, k_X10_stepSender, k_X10_stepEnd, k_X10_stepHeld, k_X10_slot, k_X10_goSlots, k_X10_slots, k_X10_drawAll, k_X10_draws, k_X10_waiting, k_X10_allWaiting, k_X10_heardBy, k_X10_station, k_X10_rank, k_X10_frame, k_X10_exchange, k_X10_placesOf, k_X10_sent, k_X10_spanOf, k_X10_rate, k_X10_hidden, k_X10_tally, k_X10_held, k_X10_why, k_X10_spoilt, k_X10_even, k_X10_busy, k_X10_power, k_X10_waysAlone, k_X10_odds, k_X10_window, k_X10_layAside, k_X10_comesBack, k_X10_ahead, k_X10_isQuiet, k_X10_quiet, k_X10_next, k_X10_takes, k_X10_soonest, k_X10_readAct, k_X10_act, k_X10_day, k_X10_change, k_X10_note, k_X10_undo, k_X10_drawBeside, k_X10_years, k_X10_keep, k_X10_again, k_X10_exchanges, k_X10_count, k_X10_row, k_J6_bitCount, k_L_setting, k_L_station, k_L_rank, k_L_frame, k_L_tally, k_L_row, k_L_law]
def mcode (j : Nat) : List mE := mtab.getD j []
noncomputable abbrev Ev (q : mQ) : Option mR := EvOf mcode q
def iushr (x y : Int32) : Int32 := (x.toUInt32 >>> (y.toUInt32 &&& Int32.toUInt32 31)).toInt32
noncomputable def e_X0_become (oa : Nat) (p1a : Nat) (σ : mS) : Option mR := Ev (0, 0, [some (.inr (.inr (0, oa, 0, 0))), some (.inr (.inr (0, p1a, 0, 0))), none], [], σ)
noncomputable def b_X0_become_31 (o0a : Nat) (o1a : Nat) (x2 : Int32) (σ : mS) : Option mR := Ev (0, 31, [some (.inr (.inr (0, o0a, 0, 0))), some (.inr (.inr (0, o1a, 0, 0))), some (.inl x2)], [], σ)
noncomputable def e_X0_startAnew (oa : Nat) (p1 : Int32) (σ : mS) : Option mR := Ev (1, 0, [some (.inr (.inr (0, oa, 0, 0))), some (.inl p1), some (.inr (.inr (25, 0, 0, 0))), none], [], σ)
noncomputable def b_X0_startAnew_52 (o0a : Nat) (x3 : Int32) (σ : mS) : Option mR := Ev (1, 52, [some (.inr (.inr (0, o0a, 0, 0))), none, some (.inr (.inr (25, 0, 0, 0))), some (.inl x3)], [], σ)
noncomputable def e_X0_startStation (oa : Nat) (p1 : Int32) (σ : mS) : Option mR := Ev (2, 0, [some (.inr (.inr (0, oa, 0, 0))), some (.inl p1), some (.inr (.inr (25, 0, 0, 0))), none, none, none, none], [], σ)
noncomputable def b_X0_startStation_15 (o0a : Nat) (x1 : Int32) (o3a : Nat) (o3s : Nat) (x4 : Int32) (σ : mS) : Option mR := Ev (2, 15, [some (.inr (.inr (0, o0a, 0, 0))), some (.inl x1), some (.inr (.inr (25, 0, 0, 0))), some (.inr (.inr (8, o3a, o3s, 0))), some (.inl x4), none, none], [], σ)
noncomputable def b_X0_startStation_104 (o0a : Nat) (o3a : Nat) (o3s : Nat) (x4 : Int32) (σ : mS) : Option mR := Ev (2, 104, [some (.inr (.inr (0, o0a, 0, 0))), none, none, some (.inr (.inr (8, o3a, o3s, 0))), some (.inl x4), none, none], [], σ)
noncomputable def e_X0_hear (oa : Nat) (p1 : Int32) (p2 : Int32) (σ : mS) : Option mR := Ev (3, 0, [some (.inr (.inr (0, oa, 0, 0))), some (.inl p1), some (.inl p2)], [], σ)
noncomputable def e_X0_sumOf (oa : Nat) (p1 : Int32) (σ : mS) : Option mR := Ev (4, 0, [some (.inr (.inr (0, oa, 0, 0))), some (.inl p1), none, none], [], σ)
noncomputable def b_X0_sumOf_4 (o0a : Nat) (x1 : Int32) (x2 : Int32) (x3 : Int32) (σ : mS) : Option mR := Ev (4, 4, [some (.inr (.inr (0, o0a, 0, 0))), some (.inl x1), some (.inl x2), some (.inl x3)], [], σ)
noncomputable def e_X0_waiting (oa : Nat) (σ : mS) : Option mR := Ev (5, 0, [some (.inr (.inr (0, oa, 0, 0))), none, none], [], σ)
noncomputable def b_X0_waiting_4 (o0a : Nat) (x1 : Int32) (x2 : Int32) (σ : mS) : Option mR := Ev (5, 4, [some (.inr (.inr (0, o0a, 0, 0))), some (.inl x1), some (.inl x2)], [], σ)
noncomputable def e_X0_exchangesOn (oa : Nat) (σ : mS) : Option mR := Ev (6, 0, [some (.inr (.inr (0, oa, 0, 0))), none, none], [], σ)
noncomputable def b_X0_exchangesOn_4 (o0a : Nat) (x1 : Int32) (x2 : Int32) (σ : mS) : Option mR := Ev (6, 4, [some (.inr (.inr (0, o0a, 0, 0))), some (.inl x1), some (.inl x2)], [], σ)
noncomputable def e_X0_emptyQueues (oa : Nat) (p1 : Int32) (σ : mS) : Option mR := Ev (7, 0, [some (.inr (.inr (0, oa, 0, 0))), some (.inl p1), none], [], σ)
noncomputable def b_X0_emptyQueues_2 (o0a : Nat) (x1 : Int32) (x2 : Int32) (σ : mS) : Option mR := Ev (7, 2, [some (.inr (.inr (0, o0a, 0, 0))), some (.inl x1), some (.inl x2)], [], σ)
noncomputable def e_X0_whyNotOffer (oa : Nat) (p1 : Int32) (p2 : Int32) (p3 : Int32) (p4 : Int32) (σ : mS) : Option mR := Ev (8, 0, [some (.inr (.inr (0, oa, 0, 0))), some (.inl p1), some (.inl p2), some (.inl p3), some (.inl p4)], [], σ)
noncomputable def e_X0_takeFrame (oa : Nat) (p1 : Int32) (p2 : Int32) (p3 : Int32) (p4 : Int32) (σ : mS) : Option mR := Ev (9, 0, [some (.inr (.inr (0, oa, 0, 0))), some (.inl p1), some (.inl p2), some (.inl p3), some (.inl p4), none], [], σ)
noncomputable def e_X0_markLast (oa : Nat) (p1 : Int32) (p2 : Int32) (σ : mS) : Option mR := Ev (10, 0, [some (.inr (.inr (0, oa, 0, 0))), some (.inl p1), some (.inl p2), none], [], σ)
noncomputable def e_X0_drawAll (oa : Nat) (σ : mS) : Option mR := Ev (11, 0, [some (.inr (.inr (0, oa, 0, 0))), none, none, none, none], [], σ)
noncomputable def b_X0_drawAll_4 (o0a : Nat) (x1 : Int32) (x2 : Int32) (σ : mS) : Option mR := Ev (11, 4, [some (.inr (.inr (0, o0a, 0, 0))), some (.inl x1), some (.inl x2), none, none], [], σ)
noncomputable def b_X0_drawAll_14 (o0a : Nat) (x1 : Int32) (x2 : Int32) (x3 : Int32) (σ : mS) : Option mR := Ev (11, 14, [some (.inr (.inr (0, o0a, 0, 0))), some (.inl x1), some (.inl x2), some (.inl x3), none], [], σ)
noncomputable def e_X0_isReady (oa : Nat) (p1 : Int32) (p2 : Int32) (σ : mS) : Option mR := Ev (12, 0, [some (.inr (.inr (0, oa, 0, 0))), some (.inl p1), some (.inl p2), none], [], σ)
noncomputable def e_X0_passSlot (oa : Nat) (σ : mS) : Option mR := Ev (13, 0, [some (.inr (.inr (0, oa, 0, 0))), none, none], [], σ)
noncomputable def b_X0_passSlot_15 (o0a : Nat) (x1 : Int32) (σ : mS) : Option mR := Ev (13, 15, [some (.inr (.inr (0, o0a, 0, 0))), some (.inl x1), none], [], σ)
noncomputable def b_X0_passSlot_84 (o0a : Nat) (x1 : Int32) (σ : mS) : Option mR := Ev (13, 84, [some (.inr (.inr (0, o0a, 0, 0))), some (.inl x1), none], [], σ)
noncomputable def b_X0_passSlot_213 (o0a : Nat) (x1 : Int32) (σ : mS) : Option mR := Ev (13, 213, [some (.inr (.inr (0, o0a, 0, 0))), some (.inl x1), none], [], σ)
noncomputable def e_X0_runningSpans (oa : Nat) (σ : mS) : Option mR := Ev (14, 0, [some (.inr (.inr (0, oa, 0, 0))), none, none], [], σ)
noncomputable def b_X0_runningSpans_4 (o0a : Nat) (x1 : Int32) (x2 : Int32) (σ : mS) : Option mR := Ev (14, 4, [some (.inr (.inr (0, o0a, 0, 0))), some (.inl x1), some (.inl x2)], [], σ)
noncomputable def e_X0_beginOf (oa : Nat) (p1 : Int32) (σ : mS) : Option mR := Ev (15, 0, [some (.inr (.inr (0, oa, 0, 0))), some (.inl p1), none, none], [], σ)
noncomputable def b_X0_beginOf_4 (o0a : Nat) (x1 : Int32) (x2 : Int32) (x3 : Int32) (σ : mS) : Option mR := Ev (15, 4, [some (.inr (.inr (0, o0a, 0, 0))), some (.inl x1), some (.inl x2), some (.inl x3)], [], σ)
noncomputable def e_X0_beginExchange (oa : Nat) (p1 : Int32) (p2 : Int32) (σ : mS) : Option mR := Ev (16, 0, [some (.inr (.inr (0, oa, 0, 0))), some (.inl p1), some (.inl p2), none, none, none, none], [], σ)
noncomputable def b_X0_beginExchange_70 (o0a : Nat) (x1 : Int32) (o3a : Nat) (o3s : Nat) (o4a : Nat) (o4s : Nat) (x6 : Int32) (σ : mS) : Option mR := Ev (16, 70, [some (.inr (.inr (0, o0a, 0, 0))), some (.inl x1), none, some (.inr (.inr (8, o3a, o3s, 0))), some (.inr (.inr (2, o4a, o4s, 0))), none, some (.inl x6)], [], σ)
noncomputable def b_X0_beginExchange_154 (o0a : Nat) (x1 : Int32) (o3a : Nat) (o3s : Nat) (o4a : Nat) (o4s : Nat) (x6 : Int32) (w0a : Nat) (w0s : Nat) (t1 : Int32) (σ : mS) : Option mR := Ev (16, 154, [some (.inr (.inr (0, o0a, 0, 0))), some (.inl x1), none, some (.inr (.inr (8, o3a, o3s, 0))), some (.inr (.inr (2, o4a, o4s, 0))), none, some (.inl x6)], [(.inl t1), (.inr (.inr (2, w0a, w0s, 0)))], σ)
noncomputable def e_X0_placesOf (p0a : Nat) (p0s : Nat) (p1 : Int32) (σ : mS) : Option mR := Ev (17, 0, [some (.inr (.inr (8, p0a, p0s, 0))), some (.inl p1), none, none, none], [], σ)
noncomputable def e_X0_senders (oa : Nat) (σ : mS) : Option mR := Ev (18, 0, [some (.inr (.inr (0, oa, 0, 0))), none, none, none], [], σ)
noncomputable def b_X0_senders_4 (o0a : Nat) (x1 : Int32) (x2 : Int32) (σ : mS) : Option mR := Ev (18, 4, [some (.inr (.inr (0, o0a, 0, 0))), some (.inl x1), some (.inl x2), none], [], σ)
noncomputable def e_X0_sendsNow (oa : Nat) (p1 : Int32) (σ : mS) : Option mR := Ev (19, 0, [some (.inr (.inr (0, oa, 0, 0))), some (.inl p1)], [], σ)
noncomputable def e_X0_isClear (oa : Nat) (p1 : Int32) (p2 : Int32) (σ : mS) : Option mR := Ev (20, 0, [some (.inr (.inr (0, oa, 0, 0))), some (.inl p1), some (.inl p2)], [], σ)
noncomputable def e_X0_clearOnes (oa : Nat) (σ : mS) : Option mR := Ev (21, 0, [some (.inr (.inr (0, oa, 0, 0))), none, none, none], [], σ)
noncomputable def b_X0_clearOnes_4 (o0a : Nat) (x1 : Int32) (x2 : Int32) (σ : mS) : Option mR := Ev (21, 4, [some (.inr (.inr (0, o0a, 0, 0))), some (.inl x1), some (.inl x2), none], [], σ)
noncomputable def e_X0_noteSlot (oa : Nat) (σ : mS) : Option mR := Ev (22, 0, [some (.inr (.inr (0, oa, 0, 0))), none, none, none], [], σ)
noncomputable def b_X0_noteSlot_66 (o0a : Nat) (x2 : Int32) (σ : mS) : Option mR := Ev (22, 66, [some (.inr (.inr (0, o0a, 0, 0))), none, some (.inl x2), none], [], σ)
noncomputable def e_X0_spread (oa : Nat) (p1 : Int32) (p2 : Int32) (p3 : Int32) (p4 : Int32) (p5 : Int32) (σ : mS) : Option mR := Ev (23, 0, [some (.inr (.inr (0, oa, 0, 0))), some (.inl p1), some (.inl p2), some (.inl p3), some (.inl p4), some (.inl p5), none], [], σ)
noncomputable def b_X0_spread_3 (o0a : Nat) (x1 : Int32) (x2 : Int32) (x3 : Int32) (x4 : Int32) (x5 : Int32) (x6 : Int32) (σ : mS) : Option mR := Ev (23, 3, [some (.inr (.inr (0, o0a, 0, 0))), some (.inl x1), some (.inl x2), some (.inl x3), some (.inl x4), some (.inl x5), some (.inl x6)], [], σ)
noncomputable def e_X0_goAsk (oa : Nat) (p1 : Int32) (p2 : Int32) (p3a : Nat) (p3s : Nat) (σ : mS) : Option mR := Ev (24, 0, [some (.inr (.inr (0, oa, 0, 0))), some (.inl p1), some (.inl p2), some (.inr (.inr (2, p3a, p3s, 0)))], [], σ)
noncomputable def e_X0_goGrant (oa : Nat) (p1 : Int32) (p2 : Int32) (p3a : Nat) (p3s : Nat) (σ : mS) : Option mR := Ev (25, 0, [some (.inr (.inr (0, oa, 0, 0))), some (.inl p1), some (.inl p2), some (.inr (.inr (2, p3a, p3s, 0))), none], [], σ)
noncomputable def e_X0_goData (oa : Nat) (p1 : Int32) (p2 : Int32) (p3a : Nat) (p3s : Nat) (σ : mS) : Option mR := Ev (26, 0, [some (.inr (.inr (0, oa, 0, 0))), some (.inl p1), some (.inl p2), some (.inr (.inr (2, p3a, p3s, 0))), none], [], σ)
noncomputable def e_X0_noteSpoilt (p0a : Nat) (p0s : Nat) (p1 : Int32) (σ : mS) : Option mR := Ev (27, 0, [some (.inr (.inr (3, p0a, p0s, 0))), some (.inl p1), none], [], σ)
noncomputable def b_X0_noteSpoilt_2 (o0a : Nat) (o0s : Nat) (x1 : Int32) (x2 : Int32) (σ : mS) : Option mR := Ev (27, 2, [some (.inr (.inr (3, o0a, o0s, 0))), some (.inl x1), some (.inl x2)], [], σ)
noncomputable def e_X0_goPlace (p0a : Nat) (p0s : Nat) (p1 : Int32) (σ : mS) : Option mR := Ev (28, 0, [some (.inr (.inr (8, p0a, p0s, 0))), some (.inl p1), none], [], σ)
noncomputable def e_X0_goAnswer (oa : Nat) (p1 : Int32) (p2 : Int32) (p3a : Nat) (p3s : Nat) (σ : mS) : Option mR := Ev (29, 0, [some (.inr (.inr (0, oa, 0, 0))), some (.inl p1), some (.inl p2), some (.inr (.inr (2, p3a, p3s, 0))), none, none], [], σ)
noncomputable def e_X0_deliver (oa : Nat) (p1 : Int32) (p2a : Nat) (p2s : Nat) (σ : mS) : Option mR := Ev (30, 0, [some (.inr (.inr (0, oa, 0, 0))), some (.inl p1), some (.inr (.inr (2, p2a, p2s, 0))), none, none, none, none], [], σ)
noncomputable def b_X0_deliver_26 (o0a : Nat) (o2a : Nat) (o2s : Nat) (o3a : Nat) (o3s : Nat) (o4a : Nat) (o4s : Nat) (o4r : Nat) (x5 : Int32) (σ : mS) : Option mR := Ev (30, 26, [some (.inr (.inr (0, o0a, 0, 0))), none, some (.inr (.inr (2, o2a, o2s, 0))), some (.inr (.inr (8, o3a, o3s, 0))), some (.inr (.inr (6, o4a, o4s, o4r))), some (.inl x5), none], [], σ)
noncomputable def e_X0_failExchange (oa : Nat) (p1 : Int32) (p2a : Nat) (p2s : Nat) (σ : mS) : Option mR := Ev (31, 0, [some (.inr (.inr (0, oa, 0, 0))), some (.inl p1), some (.inr (.inr (2, p2a, p2s, 0))), none], [], σ)
noncomputable def e_X0_failFirst (oa : Nat) (p1 : Int32) (p2 : Int32) (σ : mS) : Option mR := Ev (32, 0, [some (.inr (.inr (0, oa, 0, 0))), some (.inl p1), some (.inl p2), none], [], σ)
noncomputable def e_X0_settle (oa : Nat) (p1 : Int32) (σ : mS) : Option mR := Ev (33, 0, [some (.inr (.inr (0, oa, 0, 0))), some (.inl p1), none, none, none, none], [], σ)
noncomputable def b_X0_settle_65 (o0a : Nat) (o2a : Nat) (o2s : Nat) (x4 : Int32) (σ : mS) : Option mR := Ev (33, 65, [some (.inr (.inr (0, o0a, 0, 0))), none, some (.inr (.inr (8, o2a, o2s, 0))), none, some (.inl x4), none], [], σ)
noncomputable def e_X1_draw (oa : Nat) (p1 : Int32) (σ : mS) : Option mR := Ev (34, 0, [some (.inr (.inr (1, oa, 0, 0))), some (.inl p1)], [], σ)
noncomputable def e_X2_become (oa : Nat) (os : Nat) (p1a : Nat) (p1s : Nat) (σ : mS) : Option mR := Ev (35, 0, [some (.inr (.inr (2, oa, os, 0))), some (.inr (.inr (2, p1a, p1s, 0)))], [], σ)
noncomputable def e_X2_sends (oa : Nat) (os : Nat) (σ : mS) : Option mR := Ev (36, 0, [some (.inr (.inr (2, oa, os, 0)))], [], σ)
noncomputable def e_X3_become (oa : Nat) (os : Nat) (p1a : Nat) (p1s : Nat) (σ : mS) : Option mR := Ev (37, 0, [some (.inr (.inr (3, oa, os, 0))), some (.inr (.inr (3, p1a, p1s, 0)))], [], σ)
noncomputable def e_X3_startAnew (oa : Nat) (os : Nat) (σ : mS) : Option mR := Ev (38, 0, [some (.inr (.inr (3, oa, os, 0))), none], [], σ)
noncomputable def b_X3_startAnew_2 (o0a : Nat) (o0s : Nat) (x1 : Int32) (σ : mS) : Option mR := Ev (38, 2, [some (.inr (.inr (3, o0a, o0s, 0))), some (.inl x1)], [], σ)
noncomputable def b_X3_startAnew_23 (o0a : Nat) (o0s : Nat) (x1 : Int32) (σ : mS) : Option mR := Ev (38, 23, [some (.inr (.inr (3, o0a, o0s, 0))), some (.inl x1)], [], σ)
noncomputable def e_X3_delivered (oa : Nat) (os : Nat) (p1 : Int32) (p2 : Int32) (σ : mS) : Option mR := Ev (39, 0, [some (.inr (.inr (3, oa, os, 0))), some (.inl p1), some (.inl p2)], [], σ)
noncomputable def e_X4_forget (σ : mS) : Option mR := Ev (40, 0, [some (.inr (.inr (4, 0, 0, 0)))], [], σ)
noncomputable def e_X4_add (p1 : Int64) (σ : mS) : Option mR := Ev (41, 0, [some (.inr (.inr (4, 0, 0, 0))), some (.inr (.inl p1)), none], [], σ)
noncomputable def e_X4_tellOne (p1 : Int64) (σ : mS) : Option mR := Ev (42, 0, [some (.inr (.inr (4, 0, 0, 0))), some (.inr (.inl p1)), none], [], σ)
noncomputable def e_X4_tellTwo (p1 : Int64) (p3 : Int64) (σ : mS) : Option mR := Ev (43, 0, [some (.inr (.inr (4, 0, 0, 0))), some (.inr (.inl p1)), none, some (.inr (.inl p3)), none], [], σ)
noncomputable def e_X4_tellThree (p1 : Int64) (p3 : Int64) (p5 : Int64) (σ : mS) : Option mR := Ev (44, 0, [some (.inr (.inr (4, 0, 0, 0))), some (.inr (.inl p1)), none, some (.inr (.inl p3)), none, some (.inr (.inl p5)), none], [], σ)
noncomputable def e_X4_tellPart (p1 : Int64) (p3 : Int64) (σ : mS) : Option mR := Ev (45, 0, [some (.inr (.inr (4, 0, 0, 0))), some (.inr (.inl p1)), none, some (.inr (.inl p3)), none, none, none, none, none, none, none, none], [], σ)
noncomputable def b_X4_tellPart_9 (y1 : Int64) (y3 : Int64) (y5 : Int64) (y7 : Int64) (x9 : Int32) (σ : mS) : Option mR := Ev (45, 9, [some (.inr (.inr (4, 0, 0, 0))), some (.inr (.inl y1)), none, some (.inr (.inl y3)), none, some (.inr (.inl y5)), none, some (.inr (.inl y7)), none, some (.inl x9), none, none], [], σ)
noncomputable def e_X5_push (p1a : Nat) (σ : mS) : Option mR := Ev (46, 0, [some (.inr (.inr (5, 0, 0, 0))), some (.inr (.inr (0, p1a, 0, 0)))], [], σ)
noncomputable def e_X5_popInto (p1a : Nat) (σ : mS) : Option mR := Ev (47, 0, [some (.inr (.inr (5, 0, 0, 0))), some (.inr (.inr (0, p1a, 0, 0)))], [], σ)
noncomputable def e_X6_become (oa : Nat) (os : Nat) (or : Nat) (p1a : Nat) (p1s : Nat) (p1r : Nat) (σ : mS) : Option mR := Ev (48, 0, [some (.inr (.inr (6, oa, os, or))), some (.inr (.inr (6, p1a, p1s, p1r)))], [], σ)
noncomputable def e_X6_fieldOf (oa : Nat) (os : Nat) (or : Nat) (p1 : Int32) (p2 : Int32) (σ : mS) : Option mR := Ev (49, 0, [some (.inr (.inr (6, oa, os, or))), some (.inl p1), some (.inl p2)], [], σ)
noncomputable def e_X6_addLast (oa : Nat) (os : Nat) (or : Nat) (p1 : Int32) (p2 : Int32) (p3 : Int32) (σ : mS) : Option mR := Ev (50, 0, [some (.inr (.inr (6, oa, os, or))), some (.inl p1), some (.inl p2), some (.inl p3), none], [], σ)
noncomputable def e_X6_tryAgain (oa : Nat) (os : Nat) (or : Nat) (p1 : Int32) (σ : mS) : Option mR := Ev (51, 0, [some (.inr (.inr (6, oa, os, or))), some (.inl p1)], [], σ)
noncomputable def e_X6_removeAt (oa : Nat) (os : Nat) (or : Nat) (p1 : Int32) (σ : mS) : Option mR := Ev (52, 0, [some (.inr (.inr (6, oa, os, or))), some (.inl p1), none], [], σ)
noncomputable def b_X6_removeAt_19 (o0a : Nat) (o0s : Nat) (o0r : Nat) (x2 : Int32) (σ : mS) : Option mR := Ev (52, 19, [some (.inr (.inr (6, o0a, o0s, o0r))), none, some (.inl x2)], [], σ)
noncomputable def e_X6_alikeAtFirst (oa : Nat) (os : Nat) (or : Nat) (p1 : Int32) (σ : mS) : Option mR := Ev (53, 0, [some (.inr (.inr (6, oa, os, or))), some (.inl p1), none, none], [], σ)
noncomputable def b_X6_alikeAtFirst_4 (o0a : Nat) (o0s : Nat) (o0r : Nat) (x1 : Int32) (x2 : Int32) (x3 : Int32) (σ : mS) : Option mR := Ev (53, 4, [some (.inr (.inr (6, o0a, o0s, o0r))), some (.inl x1), some (.inl x2), some (.inl x3)], [], σ)
noncomputable def e_X7_addFour (p1 : Int32) (σ : mS) : Option mR := Ev (54, 0, [some (.inr (.inr (7, 0, 0, 0))), some (.inl p1), none], [], σ)
noncomputable def b_X7_addFour_22 (x1 : Int32) (x2 : Int32) (σ : mS) : Option mR := Ev (54, 22, [some (.inr (.inr (7, 0, 0, 0))), some (.inl x1), some (.inl x2)], [], σ)
noncomputable def e_X7_cutTo (p1 : Int32) (σ : mS) : Option mR := Ev (55, 0, [some (.inr (.inr (7, 0, 0, 0))), some (.inl p1)], [], σ)
noncomputable def e_X7_at (p1 : Int32) (σ : mS) : Option mR := Ev (56, 0, [some (.inr (.inr (7, 0, 0, 0))), some (.inl p1)], [], σ)
noncomputable def e_X7_digitAt (p1 : Int32) (p2 : Int32) (p3 : Int32) (σ : mS) : Option mR := Ev (57, 0, [some (.inr (.inr (7, 0, 0, 0))), some (.inl p1), some (.inl p2), some (.inl p3), none], [], σ)
noncomputable def e_X7_letterAt (p1 : Int32) (p2 : Int32) (σ : mS) : Option mR := Ev (58, 0, [some (.inr (.inr (7, 0, 0, 0))), some (.inl p1), some (.inl p2), none], [], σ)
noncomputable def e_X8_become (oa : Nat) (os : Nat) (p1a : Nat) (p1s : Nat) (σ : mS) : Option mR := Ev (59, 0, [some (.inr (.inr (8, oa, os, 0))), some (.inr (.inr (8, p1a, p1s, 0))), none], [], σ)
noncomputable def b_X8_become_2 (o0a : Nat) (o0s : Nat) (o1a : Nat) (o1s : Nat) (x2 : Int32) (σ : mS) : Option mR := Ev (59, 2, [some (.inr (.inr (8, o0a, o0s, 0))), some (.inr (.inr (8, o1a, o1s, 0))), some (.inl x2)], [], σ)
noncomputable def e_X8_isFree (oa : Nat) (os : Nat) (σ : mS) : Option mR := Ev (60, 0, [some (.inr (.inr (8, oa, os, 0)))], [], σ)
noncomputable def e_X8_waiting (oa : Nat) (os : Nat) (σ : mS) : Option mR := Ev (61, 0, [some (.inr (.inr (8, oa, os, 0))), none, none], [], σ)
noncomputable def b_X8_waiting_4 (o0a : Nat) (o0s : Nat) (x1 : Int32) (x2 : Int32) (σ : mS) : Option mR := Ev (61, 4, [some (.inr (.inr (8, o0a, o0s, 0))), some (.inl x1), some (.inl x2)], [], σ)
noncomputable def e_X8_setOwing (oa : Nat) (os : Nat) (p1 : Int32) (p2 : Int32) (σ : mS) : Option mR := Ev (62, 0, [some (.inr (.inr (8, oa, os, 0))), some (.inl p1), some (.inl p2)], [], σ)
noncomputable def e_X8_pays (oa : Nat) (os : Nat) (p1 : Int32) (p2 : Int32) (σ : mS) : Option mR := Ev (63, 0, [some (.inr (.inr (8, oa, os, 0))), some (.inl p1), some (.inl p2)], [], σ)
noncomputable def e_X8_listen (oa : Nat) (os : Nat) (p1 : Int32) (p2 : Int32) (p3 : Int32) (σ : mS) : Option mR := Ev (64, 0, [some (.inr (.inr (8, oa, os, 0))), some (.inl p1), some (.inl p2), some (.inl p3)], [], σ)
noncomputable def e_X9_sign (p1 : Int32) (σ : mS) : Option mR := Ev (65, 0, [some (.inr (.inr (9, 0, 0, 0))), some (.inl p1)], [], σ)
noncomputable def e_X9_end (p1 : Int32) (σ : mS) : Option mR := Ev (66, 0, [some (.inr (.inr (9, 0, 0, 0))), some (.inl p1)], [], σ)
noncomputable def e_X9_net (σ : mS) : Option mR := Ev (67, 0, [some (.inr (.inr (9, 0, 0, 0))), none, none, none], [], σ)
noncomputable def e_X9_sets (p1 : Int32) (p2 : Int32) (σ : mS) : Option mR := Ev (68, 0, [some (.inr (.inr (9, 0, 0, 0))), some (.inl p1), some (.inl p2), none], [], σ)
noncomputable def e_X9_setting (p1 : Int32) (σ : mS) : Option mR := Ev (69, 0, [some (.inr (.inr (9, 0, 0, 0))), some (.inl p1)], [], σ)
noncomputable def e_X9_sheet (p1 : Int32) (p2 : Int32) (p3 : Int32) (p4 : Int32) (p5 : Int32) (σ : mS) : Option mR := Ev (70, 0, [some (.inr (.inr (9, 0, 0, 0))), some (.inl p1), some (.inl p2), some (.inl p3), some (.inl p4), some (.inl p5), none, none], [], σ)
noncomputable def b_X9_sheet_71 (x1 : Int32) (x2 : Int32) (x3 : Int32) (x4 : Int32) (x5 : Int32) (x6 : Int32) (x7 : Int32) (σ : mS) : Option mR := Ev (70, 71, [some (.inr (.inr (9, 0, 0, 0))), some (.inl x1), some (.inl x2), some (.inl x3), some (.inl x4), some (.inl x5), some (.inl x6), some (.inl x7)], [], σ)
noncomputable def e_X9_offers (p1 : Int32) (p2 : Int32) (p3 : Int32) (p4 : Int32) (σ : mS) : Option mR := Ev (71, 0, [some (.inr (.inr (9, 0, 0, 0))), some (.inl p1), some (.inl p2), some (.inl p3), some (.inl p4), none], [], σ)
noncomputable def e_X9_slots (p1 : Int32) (σ : mS) : Option mR := Ev (72, 0, [some (.inr (.inr (9, 0, 0, 0))), some (.inl p1), none, none, none, none, none], [], σ)
noncomputable def b_X9_slots_66 (x1 : Int32) (x2 : Int32) (x3 : Int32) (x4 : Int32) (x5 : Int32) (x6 : Int32) (σ : mS) : Option mR := Ev (72, 66, [some (.inr (.inr (9, 0, 0, 0))), some (.inl x1), some (.inl x2), some (.inl x3), some (.inl x4), some (.inl x5), some (.inl x6)], [], σ)
noncomputable def e_X9_draws (σ : mS) : Option mR := Ev (73, 0, [some (.inr (.inr (9, 0, 0, 0)))], [], σ)
noncomputable def e_X9_station (p1 : Int32) (p2 : Int32) (σ : mS) : Option mR := Ev (74, 0, [some (.inr (.inr (9, 0, 0, 0))), some (.inl p1), some (.inl p2), none], [], σ)
noncomputable def e_X9_rank (p1 : Int32) (p2 : Int32) (p3 : Int32) (σ : mS) : Option mR := Ev (75, 0, [some (.inr (.inr (9, 0, 0, 0))), some (.inl p1), some (.inl p2), some (.inl p3), none], [], σ)
noncomputable def e_X9_frame (p1 : Int32) (p2 : Int32) (p3 : Int32) (p4 : Int32) (σ : mS) : Option mR := Ev (76, 0, [some (.inr (.inr (9, 0, 0, 0))), some (.inl p1), some (.inl p2), some (.inl p3), some (.inl p4), none], [], σ)
noncomputable def e_X9_exchange (p1 : Int32) (p2 : Int32) (σ : mS) : Option mR := Ev (77, 0, [some (.inr (.inr (9, 0, 0, 0))), some (.inl p1), some (.inl p2), none], [], σ)
noncomputable def e_X9_sent (σ : mS) : Option mR := Ev (78, 0, [some (.inr (.inr (9, 0, 0, 0)))], [], σ)
noncomputable def e_X9_spanOf (p1 : Int32) (σ : mS) : Option mR := Ev (79, 0, [some (.inr (.inr (9, 0, 0, 0))), some (.inl p1), none], [], σ)
noncomputable def e_X9_rate (p1 : Int32) (p2 : Int32) (σ : mS) : Option mR := Ev (80, 0, [some (.inr (.inr (9, 0, 0, 0))), some (.inl p1), some (.inl p2), none], [], σ)
noncomputable def e_X9_hidden (σ : mS) : Option mR := Ev (81, 0, [some (.inr (.inr (9, 0, 0, 0))), none, none, none], [], σ)
noncomputable def b_X9_hidden_9 (x1 : Int32) (σ : mS) : Option mR := Ev (81, 9, [some (.inr (.inr (9, 0, 0, 0))), some (.inl x1), none, none], [], σ)
noncomputable def b_X9_hidden_24 (x1 : Int32) (x2 : Int32) (σ : mS) : Option mR := Ev (81, 24, [some (.inr (.inr (9, 0, 0, 0))), some (.inl x1), some (.inl x2), none], [], σ)
noncomputable def e_X9_tally (p1 : Int32) (p2 : Int32) (σ : mS) : Option mR := Ev (82, 0, [some (.inr (.inr (9, 0, 0, 0))), some (.inl p1), some (.inl p2)], [], σ)
noncomputable def e_X9_why (p1 : Int32) (σ : mS) : Option mR := Ev (83, 0, [some (.inr (.inr (9, 0, 0, 0))), some (.inl p1), none], [], σ)
noncomputable def e_X9_spoilt (p1 : Int32) (p2 : Int32) (σ : mS) : Option mR := Ev (84, 0, [some (.inr (.inr (9, 0, 0, 0))), some (.inl p1), some (.inl p2), none], [], σ)
noncomputable def e_X9_held (p1 : Int32) (σ : mS) : Option mR := Ev (85, 0, [some (.inr (.inr (9, 0, 0, 0))), some (.inl p1), none], [], σ)
noncomputable def e_X9_even (σ : mS) : Option mR := Ev (86, 0, [some (.inr (.inr (9, 0, 0, 0))), none, none, none, none, none, none, none], [], σ)
noncomputable def b_X9_even_7 (y1 : Int64) (y3 : Int64) (x5 : Int32) (σ : mS) : Option mR := Ev (86, 7, [some (.inr (.inr (9, 0, 0, 0))), some (.inr (.inl y1)), none, some (.inr (.inl y3)), none, some (.inl x5), none, none], [], σ)
noncomputable def e_X9_busy (σ : mS) : Option mR := Ev (87, 0, [some (.inr (.inr (9, 0, 0, 0)))], [], σ)
noncomputable def e_X9_odds (p1 : Int32) (p2 : Int32) (σ : mS) : Option mR := Ev (88, 0, [some (.inr (.inr (9, 0, 0, 0))), some (.inl p1), some (.inl p2)], [], σ)
noncomputable def e_X9_window (p1 : Int32) (p2 : Int32) (σ : mS) : Option mR := Ev (89, 0, [some (.inr (.inr (9, 0, 0, 0))), some (.inl p1), some (.inl p2), none], [], σ)
noncomputable def b_X9_window_24 (x1 : Int32) (x2 : Int32) (x3 : Int32) (σ : mS) : Option mR := Ev (89, 24, [none, some (.inl x1), some (.inl x2), some (.inl x3)], [], σ)
noncomputable def e_X9_ahead (p1 : Int32) (p2 : Int32) (σ : mS) : Option mR := Ev (90, 0, [some (.inr (.inr (9, 0, 0, 0))), some (.inl p1), some (.inl p2), none], [], σ)
noncomputable def b_X9_ahead_35 (x1 : Int32) (x2 : Int32) (x3 : Int32) (σ : mS) : Option mR := Ev (90, 35, [some (.inr (.inr (9, 0, 0, 0))), some (.inl x1), some (.inl x2), some (.inl x3)], [], σ)
noncomputable def e_X9_quiet (σ : mS) : Option mR := Ev (91, 0, [some (.inr (.inr (9, 0, 0, 0))), none], [], σ)
noncomputable def b_X9_quiet_13 (x1 : Int32) (σ : mS) : Option mR := Ev (91, 13, [some (.inr (.inr (9, 0, 0, 0))), some (.inl x1)], [], σ)
noncomputable def e_X9_next (σ : mS) : Option mR := Ev (92, 0, [some (.inr (.inr (9, 0, 0, 0))), none], [], σ)
noncomputable def b_X9_next_13 (x1 : Int32) (σ : mS) : Option mR := Ev (92, 13, [some (.inr (.inr (9, 0, 0, 0))), some (.inl x1)], [], σ)
noncomputable def e_X9_soonest (p1 : Int32) (σ : mS) : Option mR := Ev (93, 0, [some (.inr (.inr (9, 0, 0, 0))), some (.inl p1), none, none, none, none], [], σ)
noncomputable def b_X9_soonest_19 (x1 : Int32) (x2 : Int32) (x3 : Int32) (x4 : Int32) (σ : mS) : Option mR := Ev (93, 19, [some (.inr (.inr (9, 0, 0, 0))), some (.inl x1), some (.inl x2), some (.inl x3), some (.inl x4), none], [], σ)
noncomputable def e_X9_day (σ : mS) : Option mR := Ev (94, 0, [some (.inr (.inr (9, 0, 0, 0))), none, none, none, none, none], [], σ)
noncomputable def b_X9_day_42 (x2 : Int32) (x3 : Int32) (x4 : Int32) (x5 : Int32) (σ : mS) : Option mR := Ev (94, 42, [some (.inr (.inr (9, 0, 0, 0))), none, some (.inl x2), some (.inl x3), some (.inl x4), some (.inl x5)], [], σ)
noncomputable def b_X9_day_109 (x2 : Int32) (x3 : Int32) (σ : mS) : Option mR := Ev (94, 109, [some (.inr (.inr (9, 0, 0, 0))), none, some (.inl x2), some (.inl x3), none, none], [], σ)
noncomputable def e_X9_undo (σ : mS) : Option mR := Ev (95, 0, [some (.inr (.inr (9, 0, 0, 0)))], [], σ)
noncomputable def e_X9_years (p1 : Int32) (p2 : Int32) (σ : mS) : Option mR := Ev (96, 0, [some (.inr (.inr (9, 0, 0, 0))), some (.inl p1), some (.inl p2), none, none, none], [], σ)
noncomputable def b_X9_years_34 (x2 : Int32) (x3 : Int32) (σ : mS) : Option mR := Ev (96, 34, [some (.inr (.inr (9, 0, 0, 0))), none, some (.inl x2), some (.inl x3), none, none], [], σ)
noncomputable def b_X9_years_74 (x2 : Int32) (x3 : Int32) (x4 : Int32) (x5 : Int32) (σ : mS) : Option mR := Ev (96, 74, [some (.inr (.inr (9, 0, 0, 0))), none, some (.inl x2), some (.inl x3), some (.inl x4), some (.inl x5)], [], σ)
noncomputable def e_X9_keep (p1 : Int32) (σ : mS) : Option mR := Ev (97, 0, [some (.inr (.inr (9, 0, 0, 0))), some (.inl p1)], [], σ)
noncomputable def e_X9_again (p1 : Int32) (σ : mS) : Option mR := Ev (98, 0, [some (.inr (.inr (9, 0, 0, 0))), some (.inl p1)], [], σ)
noncomputable def e_X9_count (p1 : Int32) (σ : mS) : Option mR := Ev (99, 0, [some (.inr (.inr (9, 0, 0, 0))), some (.inl p1)], [], σ)
noncomputable def e_X9_row (p1 : Int32) (σ : mS) : Option mR := Ev (100, 0, [some (.inr (.inr (9, 0, 0, 0))), some (.inl p1)], [], σ)
noncomputable def e_X9_isStation (p1 : Int32) (σ : mS) : Option mR := Ev (101, 0, [some (.inr (.inr (9, 0, 0, 0))), some (.inl p1)], [], σ)
noncomputable def e_X9_isRank (p0 : Int32) (σ : mS) : Option mR := Ev (102, 0, [some (.inl p0)], [], σ)
noncomputable def e_X9_readPairs (p1 : Int32) (σ : mS) : Option mR := Ev (103, 0, [some (.inr (.inr (9, 0, 0, 0))), some (.inl p1), none, none, none, none], [], σ)
noncomputable def b_X9_readPairs_2 (x1 : Int32) (x2 : Int32) (σ : mS) : Option mR := Ev (103, 2, [some (.inr (.inr (9, 0, 0, 0))), some (.inl x1), some (.inl x2), none, none, none], [], σ)
noncomputable def b_X9_readPairs_26 (x1 : Int32) (x2 : Int32) (σ : mS) : Option mR := Ev (103, 26, [some (.inr (.inr (9, 0, 0, 0))), some (.inl x1), some (.inl x2), none, none, none], [], σ)
noncomputable def e_X9_entryOf (p0 : Int32) (p1 : Int32) (σ : mS) : Option mR := Ev (104, 0, [some (.inl p0), some (.inl p1)], [], σ)
noncomputable def e_X9_comesFromEntry (p1 : Int32) (p2 : Int32) (p3 : Int32) (σ : mS) : Option mR := Ev (105, 0, [some (.inr (.inr (9, 0, 0, 0))), some (.inl p1), some (.inl p2), some (.inl p3), none], [], σ)
noncomputable def e_X9_waysAlone (p0 : Int32) (p1 : Int32) (σ : mS) : Option mR := Ev (106, 0, [some (.inl p0), some (.inl p1), none, none, none], [], σ)
noncomputable def b_X9_waysAlone_5 (x0 : Int32) (x1 : Int32) (y2 : Int64) (x4 : Int32) (σ : mS) : Option mR := Ev (106, 5, [some (.inl x0), some (.inl x1), some (.inr (.inl y2)), none, some (.inl x4)], [], σ)
noncomputable def e_X9_power (p0 : Int32) (p1 : Int32) (σ : mS) : Option mR := Ev (107, 0, [some (.inl p0), some (.inl p1), none, none, none], [], σ)
noncomputable def b_X9_power_5 (x0 : Int32) (x1 : Int32) (y2 : Int64) (x4 : Int32) (σ : mS) : Option mR := Ev (107, 5, [some (.inl x0), some (.inl x1), some (.inr (.inl y2)), none, some (.inl x4)], [], σ)
noncomputable def e_X9_slotsTillDelivered (p1 : Int32) (p2 : Int32) (σ : mS) : Option mR := Ev (108, 0, [some (.inr (.inr (9, 0, 0, 0))), some (.inl p1), some (.inl p2), none], [], σ)
noncomputable def b_X9_slotsTillDelivered_34 (x3 : Int32) (σ : mS) : Option mR := Ev (108, 34, [some (.inr (.inr (9, 0, 0, 0))), none, none, some (.inl x3)], [], σ)
noncomputable def e_X9_actLength (p1 : Int32) (σ : mS) : Option mR := Ev (109, 0, [some (.inr (.inr (9, 0, 0, 0))), some (.inl p1), none], [], σ)
noncomputable def e_X9_faultInDay (σ : mS) : Option mR := Ev (110, 0, [some (.inr (.inr (9, 0, 0, 0))), none, none, none], [], σ)
noncomputable def b_X9_faultInDay_4 (x1 : Int32) (x2 : Int32) (σ : mS) : Option mR := Ev (110, 4, [some (.inr (.inr (9, 0, 0, 0))), some (.inl x1), some (.inl x2), none], [], σ)
noncomputable def e_X9_faultInAct (p1 : Int32) (σ : mS) : Option mR := Ev (111, 0, [some (.inr (.inr (9, 0, 0, 0))), some (.inl p1), none], [], σ)
noncomputable def e_X9_doAct (p1 : Int32) (σ : mS) : Option mR := Ev (112, 0, [some (.inr (.inr (9, 0, 0, 0))), some (.inl p1), none, none, none, none, none], [], σ)
noncomputable def b_X9_doAct_78 (x3 : Int32) (x4 : Int32) (σ : mS) : Option mR := Ev (112, 78, [some (.inr (.inr (9, 0, 0, 0))), none, none, some (.inl x3), some (.inl x4), none, none], [], σ)
noncomputable def e_X9_offerDrawn (σ : mS) : Option mR := Ev (113, 0, [some (.inr (.inr (9, 0, 0, 0))), none, none, none, none], [], σ)
noncomputable def e_X10_thrown (σ : mS) : Option mR := Ev (114, 0, [some (.inr (.inr (10, 0, 0, 0)))], [], σ)
noncomputable def e_X10_in (p0 : Int32) (p1 : Int32) (p2 : Int32) (σ : mS) : Option mR := Ev (115, 0, [some (.inl p0), some (.inl p1), some (.inl p2)], [], σ)
noncomputable def e_X10_has (p0 : Int32) (p1 : Int32) (σ : mS) : Option mR := Ev (116, 0, [some (.inl p0), some (.inl p1)], [], σ)
noncomputable def e_X10_lost (σ : mS) : Option mR := Ev (117, 0, [some (.inr (.inr (10, 0, 0, 0)))], [], σ)
noncomputable def e_X10_tell (p1 : Int64) (σ : mS) : Option mR := Ev (118, 0, [some (.inr (.inr (10, 0, 0, 0))), some (.inr (.inl p1)), none], [], σ)
noncomputable def e_X10_common (p0 : Int32) (p1 : Int32) (σ : mS) : Option mR := Ev (119, 0, [some (.inl p0), some (.inl p1), none, none, none], [], σ)
noncomputable def b_X10_common_4 (x2 : Int32) (x3 : Int32) (σ : mS) : Option mR := Ev (119, 4, [none, none, some (.inl x2), some (.inl x3), none], [], σ)
noncomputable def e_X10_commonLong (p0 : Int64) (p2 : Int64) (σ : mS) : Option mR := Ev (120, 0, [some (.inr (.inl p0)), none, some (.inr (.inl p2)), none, none, none, none, none, none, none], [], σ)
noncomputable def b_X10_commonLong_6 (y4 : Int64) (y6 : Int64) (σ : mS) : Option mR := Ev (120, 6, [none, none, none, none, some (.inr (.inl y4)), none, some (.inr (.inl y6)), none, none, none], [], σ)
noncomputable def e_X10_isStation (p1 : Int32) (σ : mS) : Option mR := Ev (121, 0, [some (.inr (.inr (10, 0, 0, 0))), some (.inl p1)], [], σ)
noncomputable def e_X10_isRank (p0 : Int32) (σ : mS) : Option mR := Ev (122, 0, [some (.inl p0)], [], σ)
noncomputable def e_X10_quality (p1 : Int32) (p2 : Int32) (σ : mS) : Option mR := Ev (123, 0, [some (.inr (.inr (10, 0, 0, 0))), some (.inl p1), some (.inl p2)], [], σ)
noncomputable def e_X10_hears (p1 : Int32) (p2 : Int32) (σ : mS) : Option mR := Ev (124, 0, [some (.inr (.inr (10, 0, 0, 0))), some (.inl p1), some (.inl p2)], [], σ)
noncomputable def e_X10_at (p0 : Int32) (p1 : Int32) (σ : mS) : Option mR := Ev (125, 0, [some (.inl p0), some (.inl p1)], [], σ)
noncomputable def e_X10_frameAt (p0 : Int32) (p1 : Int32) (p2 : Int32) (σ : mS) : Option mR := Ev (126, 0, [some (.inl p0), some (.inl p1), some (.inl p2)], [], σ)
noncomputable def e_X10_exchangeAt (p0 : Int32) (σ : mS) : Option mR := Ev (127, 0, [some (.inl p0)], [], σ)
noncomputable def e_X10_draw (p1 : Int32) (σ : mS) : Option mR := Ev (128, 0, [some (.inr (.inr (10, 0, 0, 0))), some (.inl p1)], [], σ)
noncomputable def e_X10_sign (p1 : Int32) (σ : mS) : Option mR := Ev (129, 0, [some (.inr (.inr (10, 0, 0, 0))), some (.inl p1), none], [], σ)
noncomputable def b_X10_sign_20 (x1 : Int32) (x2 : Int32) (σ : mS) : Option mR := Ev (129, 20, [some (.inr (.inr (10, 0, 0, 0))), some (.inl x1), some (.inl x2)], [], σ)
noncomputable def e_X10_end (p1 : Int32) (σ : mS) : Option mR := Ev (130, 0, [some (.inr (.inr (10, 0, 0, 0))), some (.inl p1)], [], σ)
noncomputable def e_X10_begin (σ : mS) : Option mR := Ev (131, 0, [some (.inr (.inr (10, 0, 0, 0)))], [], σ)
noncomputable def e_X10_here (σ : mS) : Option mR := Ev (132, 0, [some (.inr (.inr (10, 0, 0, 0)))], [], σ)
noncomputable def e_X10_fine (σ : mS) : Option mR := Ev (133, 0, [some (.inr (.inr (10, 0, 0, 0)))], [], σ)
noncomputable def e_X10_fault (p1 : Int32) (σ : mS) : Option mR := Ev (134, 0, [some (.inr (.inr (10, 0, 0, 0))), some (.inl p1)], [], σ)
noncomputable def e_X10_oneOf (p1 : Int32) (p2 : Int32) (σ : mS) : Option mR := Ev (135, 0, [some (.inr (.inr (10, 0, 0, 0))), some (.inl p1), some (.inl p2)], [], σ)
noncomputable def e_X10_twoDigits (σ : mS) : Option mR := Ev (136, 0, [some (.inr (.inr (10, 0, 0, 0))), none], [], σ)
noncomputable def e_X10_wasRight (σ : mS) : Option mR := Ev (137, 0, [some (.inr (.inr (10, 0, 0, 0)))], [], σ)
noncomputable def e_X10_readPair (p1 : Int32) (σ : mS) : Option mR := Ev (138, 0, [some (.inr (.inr (10, 0, 0, 0))), some (.inl p1), none, none, none], [], σ)
noncomputable def e_X10_net (σ : mS) : Option mR := Ev (139, 0, [some (.inr (.inr (10, 0, 0, 0))), none, none, none, none], [], σ)
noncomputable def b_X10_net_11 (x1 : Int32) (σ : mS) : Option mR := Ev (139, 11, [some (.inr (.inr (10, 0, 0, 0))), some (.inl x1), none, none, none], [], σ)
noncomputable def b_X10_net_46 (x1 : Int32) (x2 : Int32) (σ : mS) : Option mR := Ev (139, 46, [some (.inr (.inr (10, 0, 0, 0))), some (.inl x1), some (.inl x2), none, none], [], σ)
noncomputable def b_X10_net_95 (x1 : Int32) (x2 : Int32) (x3 : Int32) (σ : mS) : Option mR := Ev (139, 95, [some (.inr (.inr (10, 0, 0, 0))), some (.inl x1), some (.inl x2), some (.inl x3), none], [], σ)
noncomputable def b_X10_net_134 (x2 : Int32) (x3 : Int32) (σ : mS) : Option mR := Ev (139, 134, [some (.inr (.inr (10, 0, 0, 0))), none, some (.inl x2), some (.inl x3), none], [], σ)
noncomputable def b_X10_net_176 (x2 : Int32) (x3 : Int32) (σ : mS) : Option mR := Ev (139, 176, [some (.inr (.inr (10, 0, 0, 0))), none, some (.inl x2), some (.inl x3), none], [], σ)
noncomputable def b_X10_net_196 (x2 : Int32) (x3 : Int32) (x4 : Int32) (σ : mS) : Option mR := Ev (139, 196, [some (.inr (.inr (10, 0, 0, 0))), none, some (.inl x2), some (.inl x3), some (.inl x4)], [], σ)
noncomputable def e_X10_highOf (p0 : Int32) (σ : mS) : Option mR := Ev (140, 0, [some (.inl p0)], [], σ)
noncomputable def e_X10_sets (p1 : Int32) (p2 : Int32) (σ : mS) : Option mR := Ev (141, 0, [some (.inr (.inr (10, 0, 0, 0))), some (.inl p1), some (.inl p2), none], [], σ)
noncomputable def e_X10_setting (p1 : Int32) (σ : mS) : Option mR := Ev (142, 0, [some (.inr (.inr (10, 0, 0, 0))), some (.inl p1)], [], σ)
noncomputable def e_X10_goesOn (σ : mS) : Option mR := Ev (143, 0, [some (.inr (.inr (10, 0, 0, 0))), none], [], σ)
noncomputable def b_X10_goesOn_2 (x1 : Int32) (σ : mS) : Option mR := Ev (143, 2, [some (.inr (.inr (10, 0, 0, 0))), some (.inl x1)], [], σ)
noncomputable def e_X10_sheet (p1 : Int32) (p2 : Int32) (p3 : Int32) (p4 : Int32) (p5 : Int32) (σ : mS) : Option mR := Ev (144, 0, [some (.inr (.inr (10, 0, 0, 0))), some (.inl p1), some (.inl p2), some (.inl p3), some (.inl p4), some (.inl p5), none, none, none, none, none], [], σ)
noncomputable def b_X10_sheet_61 (x1 : Int32) (x2 : Int32) (x3 : Int32) (x5 : Int32) (x6 : Int32) (x7 : Int32) (x8 : Int32) (σ : mS) : Option mR := Ev (144, 61, [some (.inr (.inr (10, 0, 0, 0))), some (.inl x1), some (.inl x2), some (.inl x3), none, some (.inl x5), some (.inl x6), some (.inl x7), some (.inl x8), none, none], [], σ)
noncomputable def b_X10_sheet_95 (x1 : Int32) (x2 : Int32) (x3 : Int32) (x5 : Int32) (x6 : Int32) (x7 : Int32) (x8 : Int32) (t0 : Int32) (σ : mS) : Option mR := Ev (144, 95, [some (.inr (.inr (10, 0, 0, 0))), some (.inl x1), some (.inl x2), some (.inl x3), none, some (.inl x5), some (.inl x6), some (.inl x7), some (.inl x8), none, none], [(.inl t0)], σ)
noncomputable def e_X10_put (p1 : Int32) (p2 : Int32) (p3 : Int32) (p4 : Int32) (p5 : Int32) (σ : mS) : Option mR := Ev (145, 0, [some (.inr (.inr (10, 0, 0, 0))), some (.inl p1), some (.inl p2), some (.inl p3), some (.inl p4), some (.inl p5), none], [], σ)
noncomputable def e_X10_leaves (p1 : Int32) (p2 : Int32) (p3 : Int32) (σ : mS) : Option mR := Ev (146, 0, [some (.inr (.inr (10, 0, 0, 0))), some (.inl p1), some (.inl p2), some (.inl p3), none, none], [], σ)
noncomputable def b_X10_leaves_21 (x1 : Int32) (x2 : Int32) (x4 : Int32) (σ : mS) : Option mR := Ev (146, 21, [some (.inr (.inr (10, 0, 0, 0))), some (.inl x1), some (.inl x2), none, some (.inl x4), none], [], σ)
noncomputable def b_X10_leaves_43 (x1 : Int32) (x2 : Int32) (x4 : Int32) (x5 : Int32) (σ : mS) : Option mR := Ev (146, 43, [some (.inr (.inr (10, 0, 0, 0))), some (.inl x1), some (.inl x2), none, some (.inl x4), some (.inl x5)], [], σ)
noncomputable def e_X10_refusesOffer (p1 : Int32) (p2 : Int32) (p3 : Int32) (p4 : Int32) (σ : mS) : Option mR := Ev (147, 0, [some (.inr (.inr (10, 0, 0, 0))), some (.inl p1), some (.inl p2), some (.inl p3), some (.inl p4)], [], σ)
noncomputable def e_X10_offers (p1 : Int32) (p2 : Int32) (p3 : Int32) (p4 : Int32) (σ : mS) : Option mR := Ev (148, 0, [some (.inr (.inr (10, 0, 0, 0))), some (.inl p1), some (.inl p2), some (.inl p3), some (.inl p4), none], [], σ)
noncomputable def e_X10_isFree (p1 : Int32) (σ : mS) : Option mR := Ev (149, 0, [some (.inr (.inr (10, 0, 0, 0))), some (.inl p1)], [], σ)
noncomputable def e_X10_isReady (p1 : Int32) (p2 : Int32) (σ : mS) : Option mR := Ev (150, 0, [some (.inr (.inr (10, 0, 0, 0))), some (.inl p1), some (.inl p2)], [], σ)
noncomputable def e_X10_had (p1 : Int32) (p2 : Int32) (p3 : Int32) (σ : mS) : Option mR := Ev (151, 0, [some (.inr (.inr (10, 0, 0, 0))), some (.inl p1), some (.inl p2), some (.inl p3)], [], σ)
noncomputable def e_X10_drawsCount (p1 : Int32) (p2 : Int32) (σ : mS) : Option mR := Ev (152, 0, [some (.inr (.inr (10, 0, 0, 0))), some (.inl p1), some (.inl p2)], [], σ)
noncomputable def e_X10_isLost (p1 : Int32) (p2 : Int32) (p3 : Int32) (σ : mS) : Option mR := Ev (153, 0, [some (.inr (.inr (10, 0, 0, 0))), some (.inl p1), some (.inl p2), some (.inl p3)], [], σ)
noncomputable def e_X10_fails (p1 : Int32) (p2 : Int32) (σ : mS) : Option mR := Ev (154, 0, [some (.inr (.inr (10, 0, 0, 0))), some (.inl p1), some (.inl p2), none, none], [], σ)
noncomputable def e_X10_roundedUp (p0 : Int32) (p1 : Int32) (σ : mS) : Option mR := Ev (155, 0, [some (.inl p0), some (.inl p1)], [], σ)
noncomputable def e_X10_begins (p1 : Int32) (p2 : Int32) (σ : mS) : Option mR := Ev (156, 0, [some (.inr (.inr (10, 0, 0, 0))), some (.inl p1), some (.inl p2), none, none, none, none, none], [], σ)
noncomputable def b_X10_begins_8 (x1 : Int32) (x2 : Int32) (x3 : Int32) (x4 : Int32) (σ : mS) : Option mR := Ev (156, 8, [some (.inr (.inr (10, 0, 0, 0))), some (.inl x1), some (.inl x2), some (.inl x3), some (.inl x4), none, none, none], [], σ)
noncomputable def b_X10_begins_50 (x1 : Int32) (x2 : Int32) (x3 : Int32) (x4 : Int32) (x5 : Int32) (x6 : Int32) (σ : mS) : Option mR := Ev (156, 50, [some (.inr (.inr (10, 0, 0, 0))), some (.inl x1), some (.inl x2), some (.inl x3), some (.inl x4), some (.inl x5), some (.inl x6), none], [], σ)
noncomputable def b_X10_begins_180 (x1 : Int32) (x2 : Int32) (x3 : Int32) (x4 : Int32) (x5 : Int32) (x6 : Int32) (t0 : Int32) (σ : mS) : Option mR := Ev (156, 180, [some (.inr (.inr (10, 0, 0, 0))), some (.inl x1), some (.inl x2), some (.inl x3), some (.inl x4), some (.inl x5), some (.inl x6), none], [(.inl t0)], σ)
noncomputable def e_X10_stepBegin (σ : mS) : Option mR := Ev (157, 0, [some (.inr (.inr (10, 0, 0, 0))), none, none, none], [], σ)
noncomputable def b_X10_stepBegin_20 (x1 : Int32) (σ : mS) : Option mR := Ev (157, 20, [some (.inr (.inr (10, 0, 0, 0))), some (.inl x1), none, none], [], σ)
noncomputable def b_X10_stepBegin_85 (x1 : Int32) (σ : mS) : Option mR := Ev (157, 85, [some (.inr (.inr (10, 0, 0, 0))), some (.inl x1), none, none], [], σ)
noncomputable def b_X10_stepBegin_125 (x1 : Int32) (x2 : Int32) (x3 : Int32) (σ : mS) : Option mR := Ev (157, 125, [some (.inr (.inr (10, 0, 0, 0))), some (.inl x1), some (.inl x2), some (.inl x3)], [], σ)
noncomputable def e_X10_stepSend (σ : mS) : Option mR := Ev (158, 0, [some (.inr (.inr (10, 0, 0, 0))), none, none, none, none], [], σ)
noncomputable def b_X10_stepSend_9 (x1 : Int32) (x2 : Int32) (σ : mS) : Option mR := Ev (158, 9, [some (.inr (.inr (10, 0, 0, 0))), some (.inl x1), some (.inl x2), none, none], [], σ)
noncomputable def b_X10_stepSend_78 (x1 : Int32) (x2 : Int32) (t0 : Int32) (σ : mS) : Option mR := Ev (158, 78, [some (.inr (.inr (10, 0, 0, 0))), some (.inl x1), some (.inl x2), none, none], [(.inl t0)], σ)
noncomputable def b_X10_stepSend_181 (x2 : Int32) (σ : mS) : Option mR := Ev (158, 181, [some (.inr (.inr (10, 0, 0, 0))), none, some (.inl x2), none, none], [], σ)
noncomputable def b_X10_stepSend_193 (x2 : Int32) (x3 : Int32) (σ : mS) : Option mR := Ev (158, 193, [some (.inr (.inr (10, 0, 0, 0))), none, some (.inl x2), some (.inl x3), none], [], σ)
noncomputable def e_X10_hearsOthers (p1 : Int32) (p2 : Int32) (σ : mS) : Option mR := Ev (159, 0, [some (.inr (.inr (10, 0, 0, 0))), some (.inl p1), some (.inl p2), none], [], σ)
noncomputable def b_X10_hearsOthers_2 (x1 : Int32) (x2 : Int32) (x3 : Int32) (σ : mS) : Option mR := Ev (159, 2, [some (.inr (.inr (10, 0, 0, 0))), some (.inl x1), some (.inl x2), some (.inl x3)], [], σ)
noncomputable def e_X10_isClear (p1 : Int32) (p2 : Int32) (σ : mS) : Option mR := Ev (160, 0, [some (.inr (.inr (10, 0, 0, 0))), some (.inl p1), some (.inl p2)], [], σ)
noncomputable def e_X10_spans (p1 : Int32) (p2 : Int32) (p3 : Int32) (p4 : Int32) (σ : mS) : Option mR := Ev (161, 0, [some (.inr (.inr (10, 0, 0, 0))), some (.inl p1), some (.inl p2), some (.inl p3), some (.inl p4), none], [], σ)
noncomputable def b_X10_spans_3 (x1 : Int32) (x2 : Int32) (x3 : Int32) (x4 : Int32) (x5 : Int32) (σ : mS) : Option mR := Ev (161, 3, [some (.inr (.inr (10, 0, 0, 0))), some (.inl x1), some (.inl x2), some (.inl x3), some (.inl x4), some (.inl x5)], [], σ)
noncomputable def e_X10_owes (p1 : Int32) (p2 : Int32) (p3 : Int32) (σ : mS) : Option mR := Ev (162, 0, [some (.inr (.inr (10, 0, 0, 0))), some (.inl p1), some (.inl p2), some (.inl p3)], [], σ)
noncomputable def e_X10_sendsIt (p1 : Int32) (p2 : Int32) (p3 : Int32) (σ : mS) : Option mR := Ev (163, 0, [some (.inr (.inr (10, 0, 0, 0))), some (.inl p1), some (.inl p2), some (.inl p3)], [], σ)
noncomputable def e_X10_failsBy (p1 : Int32) (p2 : Int32) (σ : mS) : Option mR := Ev (164, 0, [some (.inr (.inr (10, 0, 0, 0))), some (.inl p1), some (.inl p2), none, none, none], [], σ)
noncomputable def b_X10_failsBy_56 (x1 : Int32) (x2 : Int32) (x3 : Int32) (t1 : Int32) (t2 : Int32) (σ : mS) : Option mR := Ev (164, 56, [some (.inr (.inr (10, 0, 0, 0))), some (.inl x1), some (.inl x2), some (.inl x3), none, none], [(.inl t2), (.inl t1), (.inr (.inr (30, 0, 0, 0)))], σ)
noncomputable def e_X10_stepData (p1 : Int32) (σ : mS) : Option mR := Ev (165, 0, [some (.inr (.inr (10, 0, 0, 0))), some (.inl p1), none, none, none, none], [], σ)
noncomputable def b_X10_stepData_85 (x1 : Int32) (x2 : Int32) (x3 : Int32) (x5 : Int32) (σ : mS) : Option mR := Ev (165, 85, [some (.inr (.inr (10, 0, 0, 0))), some (.inl x1), some (.inl x2), some (.inl x3), none, some (.inl x5)], [], σ)
noncomputable def b_X10_stepData_159 (x1 : Int32) (x2 : Int32) (x3 : Int32) (σ : mS) : Option mR := Ev (165, 159, [some (.inr (.inr (10, 0, 0, 0))), some (.inl x1), some (.inl x2), some (.inl x3), none, none], [], σ)
noncomputable def b_X10_stepData_307 (x1 : Int32) (x2 : Int32) (x3 : Int32) (σ : mS) : Option mR := Ev (165, 307, [some (.inr (.inr (10, 0, 0, 0))), some (.inl x1), some (.inl x2), some (.inl x3), none, none], [], σ)
noncomputable def e_X10_delivers (p1 : Int32) (σ : mS) : Option mR := Ev (166, 0, [some (.inr (.inr (10, 0, 0, 0))), some (.inl p1), none, none, none, none, none, none], [], σ)
noncomputable def b_X10_delivers_20 (x1 : Int32) (x2 : Int32) (x3 : Int32) (x4 : Int32) (x5 : Int32) (σ : mS) : Option mR := Ev (166, 20, [some (.inr (.inr (10, 0, 0, 0))), some (.inl x1), some (.inl x2), some (.inl x3), some (.inl x4), some (.inl x5), none, none], [], σ)
noncomputable def b_X10_delivers_115 (x1 : Int32) (x2 : Int32) (x3 : Int32) (x4 : Int32) (x5 : Int32) (x6 : Int32) (σ : mS) : Option mR := Ev (166, 115, [some (.inr (.inr (10, 0, 0, 0))), some (.inl x1), some (.inl x2), some (.inl x3), some (.inl x4), some (.inl x5), some (.inl x6), none], [], σ)
noncomputable def e_X10_stepSender (p1 : Int32) (σ : mS) : Option mR := Ev (167, 0, [some (.inr (.inr (10, 0, 0, 0))), some (.inl p1), none, none], [], σ)
noncomputable def b_X10_stepSender_105 (x1 : Int32) (x2 : Int32) (x3 : Int32) (t1 : Int32) (t2 : Int32) (σ : mS) : Option mR := Ev (167, 105, [some (.inr (.inr (10, 0, 0, 0))), some (.inl x1), some (.inl x2), some (.inl x3)], [(.inl t2), (.inl t1), (.inr (.inr (30, 0, 0, 0)))], σ)
noncomputable def e_X10_stepEnd (σ : mS) : Option mR := Ev (168, 0, [some (.inr (.inr (10, 0, 0, 0))), none, none, none], [], σ)
noncomputable def b_X10_stepEnd_2 (x1 : Int32) (σ : mS) : Option mR := Ev (168, 2, [some (.inr (.inr (10, 0, 0, 0))), some (.inl x1), none, none], [], σ)
noncomputable def b_X10_stepEnd_122 (x1 : Int32) (x3 : Int32) (σ : mS) : Option mR := Ev (168, 122, [some (.inr (.inr (10, 0, 0, 0))), some (.inl x1), none, some (.inl x3)], [], σ)
noncomputable def e_X10_stepHeld (σ : mS) : Option mR := Ev (169, 0, [some (.inr (.inr (10, 0, 0, 0))), none], [], σ)
noncomputable def b_X10_stepHeld_2 (x1 : Int32) (σ : mS) : Option mR := Ev (169, 2, [some (.inr (.inr (10, 0, 0, 0))), some (.inl x1)], [], σ)
noncomputable def e_X10_slot (σ : mS) : Option mR := Ev (170, 0, [some (.inr (.inr (10, 0, 0, 0))), none], [], σ)
noncomputable def b_X10_slot_14 (x1 : Int32) (σ : mS) : Option mR := Ev (170, 14, [some (.inr (.inr (10, 0, 0, 0))), some (.inl x1)], [], σ)
noncomputable def e_X10_goSlots (p1 : Int32) (σ : mS) : Option mR := Ev (171, 0, [some (.inr (.inr (10, 0, 0, 0))), some (.inl p1), none], [], σ)
noncomputable def b_X10_goSlots_2 (x1 : Int32) (x2 : Int32) (σ : mS) : Option mR := Ev (171, 2, [some (.inr (.inr (10, 0, 0, 0))), some (.inl x1), some (.inl x2)], [], σ)
noncomputable def e_X10_slots (p1 : Int32) (σ : mS) : Option mR := Ev (172, 0, [some (.inr (.inr (10, 0, 0, 0))), some (.inl p1), none, none, none, none], [], σ)
noncomputable def e_X10_drawAll (σ : mS) : Option mR := Ev (173, 0, [some (.inr (.inr (10, 0, 0, 0))), none, none, none], [], σ)
noncomputable def b_X10_drawAll_4 (x1 : Int32) (x2 : Int32) (σ : mS) : Option mR := Ev (173, 4, [some (.inr (.inr (10, 0, 0, 0))), some (.inl x1), some (.inl x2), none], [], σ)
noncomputable def b_X10_drawAll_16 (x1 : Int32) (x2 : Int32) (x3 : Int32) (σ : mS) : Option mR := Ev (173, 16, [some (.inr (.inr (10, 0, 0, 0))), some (.inl x1), some (.inl x2), some (.inl x3)], [], σ)
noncomputable def e_X10_draws (σ : mS) : Option mR := Ev (174, 0, [some (.inr (.inr (10, 0, 0, 0)))], [], σ)
noncomputable def e_X10_waiting (p1 : Int32) (σ : mS) : Option mR := Ev (175, 0, [some (.inr (.inr (10, 0, 0, 0))), some (.inl p1), none, none], [], σ)
noncomputable def b_X10_waiting_4 (x1 : Int32) (x2 : Int32) (x3 : Int32) (σ : mS) : Option mR := Ev (175, 4, [some (.inr (.inr (10, 0, 0, 0))), some (.inl x1), some (.inl x2), some (.inl x3)], [], σ)
noncomputable def e_X10_allWaiting (σ : mS) : Option mR := Ev (176, 0, [some (.inr (.inr (10, 0, 0, 0))), none, none], [], σ)
noncomputable def b_X10_allWaiting_4 (x1 : Int32) (x2 : Int32) (σ : mS) : Option mR := Ev (176, 4, [some (.inr (.inr (10, 0, 0, 0))), some (.inl x1), some (.inl x2)], [], σ)
noncomputable def e_X10_heardBy (p1 : Int32) (σ : mS) : Option mR := Ev (177, 0, [some (.inr (.inr (10, 0, 0, 0))), some (.inl p1), none, none], [], σ)
noncomputable def b_X10_heardBy_4 (x1 : Int32) (x2 : Int32) (x3 : Int32) (σ : mS) : Option mR := Ev (177, 4, [some (.inr (.inr (10, 0, 0, 0))), some (.inl x1), some (.inl x2), some (.inl x3)], [], σ)
noncomputable def e_X10_station (p1 : Int32) (p2 : Int32) (σ : mS) : Option mR := Ev (178, 0, [some (.inr (.inr (10, 0, 0, 0))), some (.inl p1), some (.inl p2)], [], σ)
noncomputable def e_X10_rank (p1 : Int32) (p2 : Int32) (p3 : Int32) (σ : mS) : Option mR := Ev (179, 0, [some (.inr (.inr (10, 0, 0, 0))), some (.inl p1), some (.inl p2), some (.inl p3)], [], σ)
noncomputable def e_X10_frame (p1 : Int32) (p2 : Int32) (p3 : Int32) (p4 : Int32) (σ : mS) : Option mR := Ev (180, 0, [some (.inr (.inr (10, 0, 0, 0))), some (.inl p1), some (.inl p2), some (.inl p3), some (.inl p4)], [], σ)
noncomputable def e_X10_exchange (p1 : Int32) (p2 : Int32) (σ : mS) : Option mR := Ev (181, 0, [some (.inr (.inr (10, 0, 0, 0))), some (.inl p1), some (.inl p2), none], [], σ)
noncomputable def e_X10_placesOf (p1 : Int32) (σ : mS) : Option mR := Ev (182, 0, [some (.inr (.inr (10, 0, 0, 0))), some (.inl p1), none, none], [], σ)
noncomputable def b_X10_placesOf_4 (x1 : Int32) (x2 : Int32) (x3 : Int32) (σ : mS) : Option mR := Ev (182, 4, [some (.inr (.inr (10, 0, 0, 0))), some (.inl x1), some (.inl x2), some (.inl x3)], [], σ)
noncomputable def e_X10_sent (σ : mS) : Option mR := Ev (183, 0, [some (.inr (.inr (10, 0, 0, 0)))], [], σ)
noncomputable def e_X10_spanOf (p1 : Int32) (σ : mS) : Option mR := Ev (184, 0, [some (.inr (.inr (10, 0, 0, 0))), some (.inl p1)], [], σ)
noncomputable def e_X10_rate (p1 : Int32) (p2 : Int32) (σ : mS) : Option mR := Ev (185, 0, [some (.inr (.inr (10, 0, 0, 0))), some (.inl p1), some (.inl p2)], [], σ)
noncomputable def e_X10_hidden (σ : mS) : Option mR := Ev (186, 0, [some (.inr (.inr (10, 0, 0, 0))), none, none], [], σ)
noncomputable def b_X10_hidden_12 (x1 : Int32) (σ : mS) : Option mR := Ev (186, 12, [some (.inr (.inr (10, 0, 0, 0))), some (.inl x1), none], [], σ)
noncomputable def b_X10_hidden_26 (x1 : Int32) (x2 : Int32) (σ : mS) : Option mR := Ev (186, 26, [some (.inr (.inr (10, 0, 0, 0))), some (.inl x1), some (.inl x2)], [], σ)
noncomputable def e_X10_tally (p1 : Int32) (p2 : Int32) (σ : mS) : Option mR := Ev (187, 0, [some (.inr (.inr (10, 0, 0, 0))), some (.inl p1), some (.inl p2)], [], σ)
noncomputable def e_X10_held (p1 : Int32) (σ : mS) : Option mR := Ev (188, 0, [some (.inr (.inr (10, 0, 0, 0))), some (.inl p1), none, none], [], σ)
noncomputable def b_X10_held_24 (x1 : Int32) (x2 : Int32) (x3 : Int32) (σ : mS) : Option mR := Ev (188, 24, [some (.inr (.inr (10, 0, 0, 0))), some (.inl x1), some (.inl x2), some (.inl x3)], [], σ)
noncomputable def e_X10_why (p1 : Int32) (σ : mS) : Option mR := Ev (189, 0, [some (.inr (.inr (10, 0, 0, 0))), some (.inl p1)], [], σ)
noncomputable def e_X10_spoilt (p1 : Int32) (p2 : Int32) (σ : mS) : Option mR := Ev (190, 0, [some (.inr (.inr (10, 0, 0, 0))), some (.inl p1), some (.inl p2)], [], σ)
noncomputable def e_X10_even (σ : mS) : Option mR := Ev (191, 0, [some (.inr (.inr (10, 0, 0, 0))), none, none, none, none, none, none, none], [], σ)
noncomputable def b_X10_even_12 (y1 : Int64) (y3 : Int64) (x5 : Int32) (σ : mS) : Option mR := Ev (191, 12, [some (.inr (.inr (10, 0, 0, 0))), some (.inr (.inl y1)), none, some (.inr (.inl y3)), none, some (.inl x5), none, none], [], σ)
noncomputable def e_X10_busy (σ : mS) : Option mR := Ev (192, 0, [some (.inr (.inr (10, 0, 0, 0)))], [], σ)
noncomputable def e_X10_power (p0 : Int32) (p1 : Int32) (σ : mS) : Option mR := Ev (193, 0, [some (.inl p0), some (.inl p1), none, none], [], σ)
noncomputable def b_X10_power_4 (x0 : Int32) (x1 : Int32) (x2 : Int32) (x3 : Int32) (σ : mS) : Option mR := Ev (193, 4, [some (.inl x0), some (.inl x1), some (.inl x2), some (.inl x3)], [], σ)
noncomputable def e_X10_waysAlone (p0 : Int32) (p1 : Int32) (σ : mS) : Option mR := Ev (194, 0, [some (.inl p0), some (.inl p1), none, none], [], σ)
noncomputable def b_X10_waysAlone_4 (x0 : Int32) (x1 : Int32) (x2 : Int32) (x3 : Int32) (σ : mS) : Option mR := Ev (194, 4, [some (.inl x0), some (.inl x1), some (.inl x2), some (.inl x3)], [], σ)
noncomputable def e_X10_odds (p1 : Int32) (p2 : Int32) (σ : mS) : Option mR := Ev (195, 0, [some (.inr (.inr (10, 0, 0, 0))), some (.inl p1), some (.inl p2), none, none, none], [], σ)
noncomputable def e_X10_window (p1 : Int32) (p2 : Int32) (σ : mS) : Option mR := Ev (196, 0, [some (.inr (.inr (10, 0, 0, 0))), some (.inl p1), some (.inl p2), none], [], σ)
noncomputable def b_X10_window_28 (x1 : Int32) (x2 : Int32) (x3 : Int32) (σ : mS) : Option mR := Ev (196, 28, [none, some (.inl x1), some (.inl x2), some (.inl x3)], [], σ)
noncomputable def e_X10_layAside (σ : mS) : Option mR := Ev (197, 0, [some (.inr (.inr (10, 0, 0, 0))), none], [], σ)
noncomputable def b_X10_layAside_2 (x1 : Int32) (σ : mS) : Option mR := Ev (197, 2, [some (.inr (.inr (10, 0, 0, 0))), some (.inl x1)], [], σ)
noncomputable def e_X10_comesBack (σ : mS) : Option mR := Ev (198, 0, [some (.inr (.inr (10, 0, 0, 0))), none], [], σ)
noncomputable def b_X10_comesBack_2 (x1 : Int32) (σ : mS) : Option mR := Ev (198, 2, [some (.inr (.inr (10, 0, 0, 0))), some (.inl x1)], [], σ)
noncomputable def e_X10_ahead (p1 : Int32) (p2 : Int32) (σ : mS) : Option mR := Ev (199, 0, [some (.inr (.inr (10, 0, 0, 0))), some (.inl p1), some (.inl p2), none], [], σ)
noncomputable def e_X10_isQuiet (σ : mS) : Option mR := Ev (200, 0, [some (.inr (.inr (10, 0, 0, 0)))], [], σ)
noncomputable def e_X10_quiet (σ : mS) : Option mR := Ev (201, 0, [some (.inr (.inr (10, 0, 0, 0))), none, none, none], [], σ)
noncomputable def b_X10_quiet_11 (x1 : Int32) (σ : mS) : Option mR := Ev (201, 11, [some (.inr (.inr (10, 0, 0, 0))), some (.inl x1), none, none], [], σ)
noncomputable def e_X10_next (σ : mS) : Option mR := Ev (202, 0, [some (.inr (.inr (10, 0, 0, 0))), none, none], [], σ)
noncomputable def b_X10_next_13 (x1 : Int32) (x2 : Int32) (σ : mS) : Option mR := Ev (202, 13, [some (.inr (.inr (10, 0, 0, 0))), some (.inl x1), some (.inl x2)], [], σ)
noncomputable def e_X10_takes (p1 : Int32) (p2 : Int32) (σ : mS) : Option mR := Ev (203, 0, [some (.inr (.inr (10, 0, 0, 0))), some (.inl p1), some (.inl p2), none, none], [], σ)
noncomputable def b_X10_takes_24 (x3 : Int32) (σ : mS) : Option mR := Ev (203, 24, [some (.inr (.inr (10, 0, 0, 0))), none, none, some (.inl x3), none], [], σ)
noncomputable def e_X10_soonest (p1 : Int32) (σ : mS) : Option mR := Ev (204, 0, [some (.inr (.inr (10, 0, 0, 0))), some (.inl p1), none, none, none, none], [], σ)
noncomputable def b_X10_soonest_22 (x1 : Int32) (x2 : Int32) (x3 : Int32) (x4 : Int32) (σ : mS) : Option mR := Ev (204, 22, [some (.inr (.inr (10, 0, 0, 0))), some (.inl x1), some (.inl x2), some (.inl x3), some (.inl x4), none], [], σ)
noncomputable def e_X10_readAct (p1 : Int32) (σ : mS) : Option mR := Ev (205, 0, [some (.inr (.inr (10, 0, 0, 0))), some (.inl p1), none], [], σ)
noncomputable def b_X10_readAct_67 (x1 : Int32) (x2 : Int32) (σ : mS) : Option mR := Ev (205, 67, [some (.inr (.inr (10, 0, 0, 0))), some (.inl x1), some (.inl x2)], [], σ)
noncomputable def e_X10_act (p1 : Int32) (σ : mS) : Option mR := Ev (206, 0, [some (.inr (.inr (10, 0, 0, 0))), some (.inl p1)], [], σ)
noncomputable def e_X10_day (σ : mS) : Option mR := Ev (207, 0, [some (.inr (.inr (10, 0, 0, 0))), none, none, none], [], σ)
noncomputable def b_X10_day_11 (x1 : Int32) (σ : mS) : Option mR := Ev (207, 11, [some (.inr (.inr (10, 0, 0, 0))), some (.inl x1), none, none], [], σ)
noncomputable def b_X10_day_58 (x1 : Int32) (x2 : Int32) (σ : mS) : Option mR := Ev (207, 58, [some (.inr (.inr (10, 0, 0, 0))), some (.inl x1), some (.inl x2), none], [], σ)
noncomputable def b_X10_day_94 (x1 : Int32) (x2 : Int32) (x3 : Int32) (σ : mS) : Option mR := Ev (207, 94, [some (.inr (.inr (10, 0, 0, 0))), some (.inl x1), some (.inl x2), some (.inl x3)], [], σ)
noncomputable def e_X10_change (σ : mS) : Option mR := Ev (208, 0, [some (.inr (.inr (10, 0, 0, 0))), none], [], σ)
noncomputable def b_X10_change_2 (x1 : Int32) (σ : mS) : Option mR := Ev (208, 2, [some (.inr (.inr (10, 0, 0, 0))), some (.inl x1)], [], σ)
noncomputable def e_X10_note (σ : mS) : Option mR := Ev (209, 0, [some (.inr (.inr (10, 0, 0, 0))), none], [], σ)
noncomputable def b_X10_note_11 (x1 : Int32) (σ : mS) : Option mR := Ev (209, 11, [some (.inr (.inr (10, 0, 0, 0))), some (.inl x1)], [], σ)
noncomputable def b_X10_note_52 (x1 : Int32) (σ : mS) : Option mR := Ev (209, 52, [some (.inr (.inr (10, 0, 0, 0))), some (.inl x1)], [], σ)
noncomputable def e_X10_undo (σ : mS) : Option mR := Ev (210, 0, [some (.inr (.inr (10, 0, 0, 0))), none], [], σ)
noncomputable def b_X10_undo_26 (x1 : Int32) (σ : mS) : Option mR := Ev (210, 26, [some (.inr (.inr (10, 0, 0, 0))), some (.inl x1)], [], σ)
noncomputable def e_X10_drawBeside (p1 : Int32) (σ : mS) : Option mR := Ev (211, 0, [some (.inr (.inr (10, 0, 0, 0))), some (.inl p1)], [], σ)
noncomputable def e_X10_years (p1 : Int32) (p2 : Int32) (σ : mS) : Option mR := Ev (212, 0, [some (.inr (.inr (10, 0, 0, 0))), some (.inl p1), some (.inl p2), none, none, none, none, none], [], σ)
noncomputable def b_X10_years_28 (x2 : Int32) (x3 : Int32) (σ : mS) : Option mR := Ev (212, 28, [some (.inr (.inr (10, 0, 0, 0))), none, some (.inl x2), some (.inl x3), none, none, none, none], [], σ)
noncomputable def e_X10_keep (p1 : Int32) (σ : mS) : Option mR := Ev (213, 0, [some (.inr (.inr (10, 0, 0, 0))), some (.inl p1), none], [], σ)
noncomputable def b_X10_keep_25 (x1 : Int32) (x2 : Int32) (σ : mS) : Option mR := Ev (213, 25, [some (.inr (.inr (10, 0, 0, 0))), some (.inl x1), some (.inl x2)], [], σ)
noncomputable def e_X10_again (p1 : Int32) (σ : mS) : Option mR := Ev (214, 0, [some (.inr (.inr (10, 0, 0, 0))), some (.inl p1), none], [], σ)
noncomputable def b_X10_again_27 (x1 : Int32) (x2 : Int32) (σ : mS) : Option mR := Ev (214, 27, [some (.inr (.inr (10, 0, 0, 0))), some (.inl x1), some (.inl x2)], [], σ)
noncomputable def e_X10_exchanges (σ : mS) : Option mR := Ev (215, 0, [some (.inr (.inr (10, 0, 0, 0))), none, none], [], σ)
noncomputable def b_X10_exchanges_4 (x1 : Int32) (x2 : Int32) (σ : mS) : Option mR := Ev (215, 4, [some (.inr (.inr (10, 0, 0, 0))), some (.inl x1), some (.inl x2)], [], σ)
noncomputable def e_X10_count (p1 : Int32) (σ : mS) : Option mR := Ev (216, 0, [some (.inr (.inr (10, 0, 0, 0))), some (.inl p1)], [], σ)
noncomputable def e_X10_row (p1 : Int32) (σ : mS) : Option mR := Ev (217, 0, [some (.inr (.inr (10, 0, 0, 0))), some (.inl p1)], [], σ)
noncomputable def e_J6_bitCount (p0 : Int32) (σ : mS) : Option mR := Ev (218, 0, [some (.inl p0)], [], σ)
noncomputable def e_L_setting (p1 : Int32) (σ : mS) : Option mR := Ev (219, 0, [some (.inr (.inr (9, 0, 0, 0))), some (.inl p1), some (.inr (.inr (45, 0, 0, 0))), none], [], σ)
noncomputable def e_L_station (p1 : Int32) (p2 : Int32) (σ : mS) : Option mR := Ev (220, 0, [some (.inr (.inr (9, 0, 0, 0))), some (.inl p1), some (.inl p2), some (.inr (.inr (45, 0, 0, 0))), none], [], σ)
noncomputable def e_L_rank (p1 : Int32) (p2 : Int32) (p3 : Int32) (σ : mS) : Option mR := Ev (221, 0, [some (.inr (.inr (9, 0, 0, 0))), some (.inl p1), some (.inl p2), some (.inl p3), some (.inr (.inr (45, 0, 0, 0))), none], [], σ)
noncomputable def e_L_frame (p1 : Int32) (p2 : Int32) (p3 : Int32) (p4 : Int32) (σ : mS) : Option mR := Ev (222, 0, [some (.inr (.inr (9, 0, 0, 0))), some (.inl p1), some (.inl p2), some (.inl p3), some (.inl p4), some (.inr (.inr (45, 0, 0, 0))), none], [], σ)
noncomputable def e_L_tally (p1 : Int32) (p2 : Int32) (σ : mS) : Option mR := Ev (223, 0, [some (.inr (.inr (9, 0, 0, 0))), some (.inl p1), some (.inl p2), some (.inr (.inr (45, 0, 0, 0))), none], [], σ)
noncomputable def e_L_row (p1 : Int32) (σ : mS) : Option mR := Ev (224, 0, [some (.inr (.inr (9, 0, 0, 0))), some (.inl p1), some (.inr (.inr (45, 0, 0, 0))), none], [], σ)
noncomputable def e_L_law (σ : mS) : Option mR := Ev (225, 0, [some (.inr (.inr (46, 0, 0, 0))), none, none, none, none, none, none, none], [], σ)
end
section
/-! What each block comes to (by program out of the mini-code) -/
set_option maxRecDepth 100000 in
set_option maxHeartbeats 4000000 in
theorem q_X10_thrown (σ : mS) : e_X10_thrown σ =
  some (some (some (.inl (σ.1 (10, 0, 0, 0) 5))), σ) := (EvOf_eq mcode _).trans rfl
set_option maxRecDepth 100000 in
set_option maxHeartbeats 4000000 in
theorem q_X10_in (p0 : Int32) (p1 : Int32) (p2 : Int32) (σ : mS) : e_X10_in p0 p1 p2 σ =
  if p0 < p1 then (
    if nI 0 = 0 ∨ nI 0 = 1 then some (some (some (.inl (nI 0))), σ) else none)
  else (
    if p2 < p0 then (
      if nI 0 = 0 ∨ nI 0 = 1 then some (some (some (.inl (nI 0))), σ) else none)
    else (
      if nI 1 = 0 ∨ nI 1 = 1 then some (some (some (.inl (nI 1))), σ) else none)) := (EvOf_eq mcode _).trans rfl
set_option maxRecDepth 100000 in
set_option maxHeartbeats 4000000 in
theorem q_X10_has (p0 : Int32) (p1 : Int32) (σ : mS) : e_X10_has p0 p1 σ =
  if (p0 >>> (p1 &&& 31)) &&& (nI 1) = nI 1 then (
    if nI 1 = 0 ∨ nI 1 = 1 then some (some (some (.inl (nI 1))), σ) else none)
  else (
    if nI 0 = 0 ∨ nI 0 = 1 then some (some (some (.inl (nI 0))), σ) else none) := (EvOf_eq mcode _).trans rfl
set_option maxRecDepth 100000 in
set_option maxHeartbeats 4000000 in
theorem q_X10_lost (σ : mS) : e_X10_lost σ =
  let σ1 := st σ (10, 0, 0, 0) 5 (nI 1);
  some (some (some (.inl (nI 0))), σ1) := (EvOf_eq mcode _).trans rfl
set_option maxRecDepth 100000 in
set_option maxHeartbeats 4000000 in
theorem q_X10_tell (p1 : Int64) (σ : mS) : e_X10_tell p1 σ =
  if σ.1 (10, 0, 0, 0) 4 < 0 ∨ 40 ≤ (σ.1 (10, 0, 0, 0) 4).toNatClampNeg then none else (
  let σ1 := stL σ (32, 0, 0, 0) ((σ.1 (10, 0, 0, 0) 4).toNatClampNeg) p1;
  let σ2 := st σ1 (10, 0, 0, 0) 4 ((σ1.1 (10, 0, 0, 0) 4) + (nI 1));
  some (some none, σ2)) := (EvOf_eq mcode _).trans rfl
set_option maxRecDepth 100000 in
set_option maxHeartbeats 4000000 in
theorem q_X10_common (p0 : Int32) (p1 : Int32) (σ : mS) : e_X10_common p0 p1 σ =
  b_X10_common_4 p0 p1 σ := (EvOf_eq mcode _).trans rfl
set_option maxRecDepth 100000 in
set_option maxHeartbeats 4000000 in
theorem q_X10_common_4 (x2 : Int32) (x3 : Int32) (σ : mS) : b_X10_common_4 x2 x3 σ =
  if x3 = 0 then (
    some (some (some (.inl x2)), σ))
  else (
    if x3 = 0 then none else (
    b_X10_common_4 x3 (x2 - x2 / x3 * x3) σ)) := (EvOf_eq mcode _).trans rfl
set_option maxRecDepth 100000 in
set_option maxHeartbeats 4000000 in
theorem q_X10_commonLong (p0 : Int64) (p2 : Int64) (σ : mS) : e_X10_commonLong p0 p2 σ =
  b_X10_commonLong_6 p0 p2 σ := (EvOf_eq mcode _).trans rfl
set_option maxRecDepth 100000 in
set_option maxHeartbeats 4000000 in
theorem q_X10_commonLong_6 (y4 : Int64) (y6 : Int64) (σ : mS) : b_X10_commonLong_6 y4 y6 σ =
  if lg_cmp y6 (lN 0) = 0 then (
    some (some (some (.inr (.inl y4))), σ))
  else (
    if y6 = 0 then none else (
    b_X10_commonLong_6 y6 (y4 - y4 / y6 * y6) σ)) := (EvOf_eq mcode _).trans rfl
set_option maxRecDepth 100000 in
set_option maxHeartbeats 4000000 in
theorem q_X10_isStation (p1 : Int32) (σ : mS) : e_X10_isStation p1 σ =
  if nI 0 < 0 ∨ 1432 ≤ (nI 0).toNatClampNeg then none else (
  bdI (e_X10_in p1 (nI 0) ((σ.1 (30, 0, 0, 0) ((nI 0).toNatClampNeg)) - (nI 1)) σ) (fun v2 σ1 =>
  if v2 = 0 ∨ v2 = 1 then some (some (some (.inl v2)), σ1) else none)) := (EvOf_eq mcode _).trans rfl
set_option maxRecDepth 100000 in
set_option maxHeartbeats 4000000 in
theorem q_X10_isRank (p0 : Int32) (σ : mS) : e_X10_isRank p0 σ =
  bdI (e_X10_in p0 (nI 0) (nI 3) σ) (fun v2 σ1 =>
  if v2 = 0 ∨ v2 = 1 then some (some (some (.inl v2)), σ1) else none) := (EvOf_eq mcode _).trans rfl
set_option maxRecDepth 100000 in
set_option maxHeartbeats 4000000 in
theorem q_X10_quality (p1 : Int32) (p2 : Int32) (σ : mS) : e_X10_quality p1 p2 σ =
  if ((nI 15) + ((nI 6) * p1)) + p2 < 0 ∨ 1432 ≤ (((nI 15) + ((nI 6) * p1)) + p2).toNatClampNeg then none else (
  some (some (some (.inl (σ.1 (30, 0, 0, 0) ((((nI 15) + ((nI 6) * p1)) + p2).toNatClampNeg)))), σ)) := (EvOf_eq mcode _).trans rfl
set_option maxRecDepth 100000 in
set_option maxHeartbeats 4000000 in
theorem q_X10_hears (p1 : Int32) (p2 : Int32) (σ : mS) : e_X10_hears p1 p2 σ =
  bdI (e_X10_quality p1 p2 σ) (fun v2 σ1 =>
  if 0 < v2 then (
    if nI 1 = 0 ∨ nI 1 = 1 then some (some (some (.inl (nI 1))), σ1) else none)
  else (
    if nI 0 = 0 ∨ nI 0 = 1 then some (some (some (.inl (nI 0))), σ1) else none)) := (EvOf_eq mcode _).trans rfl
set_option maxRecDepth 100000 in
set_option maxHeartbeats 4000000 in
theorem q_X10_at (p0 : Int32) (p1 : Int32) (σ : mS) : e_X10_at p0 p1 σ =
  some (some (some (.inl (((nI 4) * p0) + p1))), σ) := (EvOf_eq mcode _).trans rfl
set_option maxRecDepth 100000 in
set_option maxHeartbeats 4000000 in
theorem q_X10_frameAt (p0 : Int32) (p1 : Int32) (p2 : Int32) (σ : mS) : e_X10_frameAt p0 p1 p2 σ =
  bdI (e_X10_at p0 p1 σ) (fun v2 σ1 =>
  some (some (some (.inl ((nI 171) + ((nI 5) * (((nI 8) * v2) + p2))))), σ1)) := (EvOf_eq mcode _).trans rfl
set_option maxRecDepth 100000 in
set_option maxHeartbeats 4000000 in
theorem q_X10_exchangeAt (p0 : Int32) (σ : mS) : e_X10_exchangeAt p0 σ =
  some (some (some (.inl ((nI 1179) + ((nI 16) * p0)))), σ) := (EvOf_eq mcode _).trans rfl
set_option maxRecDepth 100000 in
set_option maxHeartbeats 4000000 in
theorem q_X10_draw (p1 : Int32) (σ : mS) : e_X10_draw p1 σ =
  if nI 14 < 0 ∨ 1432 ≤ (nI 14).toNatClampNeg then none else (
  if nI 14 < 0 ∨ 1432 ≤ (nI 14).toNatClampNeg then none else (
  let σ1 := st σ (30, 0, 0, 0) ((nI 14).toNatClampNeg) (((σ.1 (30, 0, 0, 0) ((nI 14).toNatClampNeg)) * (nI 1103515245)) + (nI 12345));
  if nI 14 < 0 ∨ 1432 ≤ (nI 14).toNatClampNeg then none else (
  if p1 = 0 then none else (
  some (some (some (.inl ((iushr (σ1.1 (30, 0, 0, 0) ((nI 14).toNatClampNeg)) (nI 16)) - (iushr (σ1.1 (30, 0, 0, 0) ((nI 14).toNatClampNeg)) (nI 16)) / p1 * p1))), σ1))))) := (EvOf_eq mcode _).trans rfl
set_option maxRecDepth 100000 in
set_option maxHeartbeats 4000000 in
theorem q_X10_sign (p1 : Int32) (σ : mS) : e_X10_sign p1 σ =
  let σ1 := st σ (10, 0, 0, 0) 5 (nI 0);
  if nI 80 < (σ1.1 (10, 0, 0, 0) 2) + (nI 4) then (
    some (some (some (.inl (-1))), σ1))
  else (
    b_X10_sign_20 p1 (nI 3) σ1) := (EvOf_eq mcode _).trans rfl
set_option maxRecDepth 100000 in
set_option maxHeartbeats 4000000 in
theorem q_X10_sign_20 (x1 : Int32) (x2 : Int32) (σ : mS) : b_X10_sign_20 x1 x2 σ =
  if x2 < 0 then (
    some (some (some (.inl (σ.1 (10, 0, 0, 0) 2))), σ))
  else (
    let σ1 := st σ (10, 0, 0, 0) 2 ((σ.1 (10, 0, 0, 0) 2) + (nI 1));
    if σ.1 (10, 0, 0, 0) 2 < 0 ∨ 80 ≤ (σ.1 (10, 0, 0, 0) 2).toNatClampNeg then none else (
    let σ2 := st σ1 (31, 0, 0, 0) ((σ.1 (10, 0, 0, 0) 2).toNatClampNeg) (((x1 >>> (((nI 8) * x2) &&& 31)).toInt8.toInt32).toInt8.toInt32);
    b_X10_sign_20 x1 (x2 + (-1)) σ2)) := (EvOf_eq mcode _).trans rfl
set_option maxRecDepth 100000 in
set_option maxHeartbeats 4000000 in
theorem q_X10_end (p1 : Int32) (σ : mS) : e_X10_end p1 σ =
  let σ1 := st σ (10, 0, 0, 0) 5 (nI 0);
  bdI (e_X10_in p1 (nI 0) (σ1.1 (10, 0, 0, 0) 2) σ1) (fun v3 σ2 =>
  if v3 = 0 then (
    if nI 0 = 0 ∨ nI 0 = 1 then some (some (some (.inl (nI 0))), σ2) else none)
  else (
    let σ4 := st σ2 (10, 0, 0, 0) 2 p1;
    if nI 1 = 0 ∨ nI 1 = 1 then some (some (some (.inl (nI 1))), σ4) else none)) := (EvOf_eq mcode _).trans rfl
set_option maxRecDepth 100000 in
set_option maxHeartbeats 4000000 in
theorem q_X10_begin (σ : mS) : e_X10_begin σ =
  let σ1 := st σ (10, 0, 0, 0) 6 (σ.1 (10, 0, 0, 0) 2);
  let σ2 := st σ1 (10, 0, 0, 0) 7 (nI 0);
  let σ3 := st σ2 (10, 0, 0, 0) 8 (-1);
  let σ4 := st σ3 (10, 0, 0, 0) 2 (nI 0);
  some (some none, σ4) := (EvOf_eq mcode _).trans rfl
set_option maxRecDepth 100000 in
set_option maxHeartbeats 4000000 in
theorem q_X10_here (σ : mS) : e_X10_here σ =
  if σ.1 (10, 0, 0, 0) 7 < σ.1 (10, 0, 0, 0) 6 then (
    if σ.1 (10, 0, 0, 0) 7 < 0 ∨ 80 ≤ (σ.1 (10, 0, 0, 0) 7).toNatClampNeg then none else (
    some (some (some (.inl ((σ.1 (31, 0, 0, 0) ((σ.1 (10, 0, 0, 0) 7).toNatClampNeg)) &&& (nI 255)))), σ)))
  else (
    some (some (some (.inl (-1))), σ)) := (EvOf_eq mcode _).trans rfl
set_option maxRecDepth 100000 in
set_option maxHeartbeats 4000000 in
theorem q_X10_fine (σ : mS) : e_X10_fine σ =
  if σ.1 (10, 0, 0, 0) 8 = (-1) then (
    if nI 1 = 0 ∨ nI 1 = 1 then some (some (some (.inl (nI 1))), σ) else none)
  else (
    if nI 0 = 0 ∨ nI 0 = 1 then some (some (some (.inl (nI 0))), σ) else none) := (EvOf_eq mcode _).trans rfl
set_option maxRecDepth 100000 in
set_option maxHeartbeats 4000000 in
theorem q_X10_fault (p1 : Int32) (σ : mS) : e_X10_fault p1 σ =
  bdI (e_X10_fine σ) (fun v2 σ1 =>
  if v2 = 0 then (
    some (some none, σ1))
  else (
    let σ3 := st σ1 (10, 0, 0, 0) 8 p1;
    some (some none, σ3))) := (EvOf_eq mcode _).trans rfl
set_option maxRecDepth 100000 in
set_option maxHeartbeats 4000000 in
theorem q_X10_oneOf (p1 : Int32) (p2 : Int32) (σ : mS) : e_X10_oneOf p1 p2 σ =
  bdI (e_X10_fine σ) (fun v2 σ1 =>
  if v2 = 0 then (
    some (some (some (.inl (nI 0))), σ1))
  else (
    bdI (e_X10_here σ1) (fun v4 σ3 =>
    bdI (e_X10_in v4 p1 ((p1 + p2) - (nI 1)) σ3) (fun v6 σ5 =>
    if v6 = 0 then (
      bdV (e_X10_fault (σ5.1 (10, 0, 0, 0) 7) σ5) (fun σ7 =>
      some (some (some (.inl (nI 0))), σ7)))
    else (
      let σ8 := st σ5 (10, 0, 0, 0) 7 ((σ5.1 (10, 0, 0, 0) 7) + (nI 1));
      if (σ8.1 (10, 0, 0, 0) 7) - (nI 1) < 0 ∨ 80 ≤ ((σ8.1 (10, 0, 0, 0) 7) - (nI 1)).toNatClampNeg then none else (
      some (some (some (.inl ((σ8.1 (31, 0, 0, 0) (((σ8.1 (10, 0, 0, 0) 7) - (nI 1)).toNatClampNeg)) - p1))), σ8))))))) := (EvOf_eq mcode _).trans rfl
set_option maxRecDepth 100000 in
set_option maxHeartbeats 4000000 in
theorem q_X10_twoDigits (σ : mS) : e_X10_twoDigits σ =
  bdI (e_X10_oneOf (nI 48) (nI 10) σ) (fun v2 σ1 =>
  bdI (e_X10_oneOf (nI 48) (nI 10) σ1) (fun v4 σ3 =>
  some (some (some (.inl (((nI 10) * v2) + v4))), σ3))) := (EvOf_eq mcode _).trans rfl
set_option maxRecDepth 100000 in
set_option maxHeartbeats 4000000 in
theorem q_X10_wasRight (σ : mS) : e_X10_wasRight σ =
  if σ.1 (10, 0, 0, 0) 7 < σ.1 (10, 0, 0, 0) 6 then (
    bdV (e_X10_fault (σ.1 (10, 0, 0, 0) 7) σ) (fun σ1 =>
    bdI (e_X10_fine σ1) (fun v3 σ2 =>
    if v3 = 0 ∨ v3 = 1 then some (some (some (.inl v3)), σ2) else none)))
  else (
    bdI (e_X10_fine σ) (fun v5 σ4 =>
    if v5 = 0 ∨ v5 = 1 then some (some (some (.inl v5)), σ4) else none)) := (EvOf_eq mcode _).trans rfl
set_option maxRecDepth 100000 in
set_option maxHeartbeats 4000000 in
theorem q_X10_readPair (p1 : Int32) (σ : mS) : e_X10_readPair p1 σ =
  bdI (e_X10_oneOf (nI 97) p1 σ) (fun v2 σ1 =>
  bdI (e_X10_oneOf (nI 97) p1 σ1) (fun v4 σ3 =>
  bdI (e_X10_fine σ3) (fun v6 σ5 =>
  if v6 = 0 then (
    bdI (e_X10_oneOf (nI 49) (nI 3) σ5) (fun v8 σ7 =>
    if ((nI 6) * v2) + v4 < 0 ∨ 36 ≤ (((nI 6) * v2) + v4).toNatClampNeg then none else (
    let σ9 := st σ7 (33, 0, 0, 0) ((((nI 6) * v2) + v4).toNatClampNeg) (v8 + (nI 1));
    if ((nI 6) * v4) + v2 < 0 ∨ 36 ≤ (((nI 6) * v4) + v2).toNatClampNeg then none else (
    let σ10 := st σ9 (33, 0, 0, 0) ((((nI 6) * v4) + v2).toNatClampNeg) (v8 + (nI 1));
    some (some (some (.inl (nI 1))), σ10)))))
  else (
    if v2 = v4 then (
      bdV (e_X10_fault ((σ5.1 (10, 0, 0, 0) 7) - (nI 1)) σ5) (fun σ11 =>
      bdI (e_X10_oneOf (nI 49) (nI 3) σ11) (fun v13 σ12 =>
      if ((nI 6) * v2) + v4 < 0 ∨ 36 ≤ (((nI 6) * v2) + v4).toNatClampNeg then none else (
      let σ14 := st σ12 (33, 0, 0, 0) ((((nI 6) * v2) + v4).toNatClampNeg) (v13 + (nI 1));
      if ((nI 6) * v4) + v2 < 0 ∨ 36 ≤ (((nI 6) * v4) + v2).toNatClampNeg then none else (
      let σ15 := st σ14 (33, 0, 0, 0) ((((nI 6) * v4) + v2).toNatClampNeg) (v13 + (nI 1));
      some (some (some (.inl (nI 1))), σ15))))))
    else (
      if ((nI 6) * v2) + v4 < 0 ∨ 36 ≤ (((nI 6) * v2) + v4).toNatClampNeg then none else (
      if 0 < σ5.1 (33, 0, 0, 0) ((((nI 6) * v2) + v4).toNatClampNeg) then (
        bdV (e_X10_fault ((σ5.1 (10, 0, 0, 0) 7) - (nI 1)) σ5) (fun σ16 =>
        bdI (e_X10_oneOf (nI 49) (nI 3) σ16) (fun v18 σ17 =>
        if ((nI 6) * v2) + v4 < 0 ∨ 36 ≤ (((nI 6) * v2) + v4).toNatClampNeg then none else (
        let σ19 := st σ17 (33, 0, 0, 0) ((((nI 6) * v2) + v4).toNatClampNeg) (v18 + (nI 1));
        if ((nI 6) * v4) + v2 < 0 ∨ 36 ≤ (((nI 6) * v4) + v2).toNatClampNeg then none else (
        let σ20 := st σ19 (33, 0, 0, 0) ((((nI 6) * v4) + v2).toNatClampNeg) (v18 + (nI 1));
        some (some (some (.inl (nI 1))), σ20))))))
      else (
        bdI (e_X10_oneOf (nI 49) (nI 3) σ5) (fun v22 σ21 =>
        if ((nI 6) * v2) + v4 < 0 ∨ 36 ≤ (((nI 6) * v2) + v4).toNatClampNeg then none else (
        let σ23 := st σ21 (33, 0, 0, 0) ((((nI 6) * v2) + v4).toNatClampNeg) (v22 + (nI 1));
        if ((nI 6) * v4) + v2 < 0 ∨ 36 ≤ (((nI 6) * v4) + v2).toNatClampNeg then none else (
        let σ24 := st σ23 (33, 0, 0, 0) ((((nI 6) * v4) + v2).toNatClampNeg) (v22 + (nI 1));
        some (some (some (.inl (nI 1))), σ24))))))))))) := (EvOf_eq mcode _).trans rfl
set_option maxRecDepth 100000 in
set_option maxHeartbeats 4000000 in
theorem q_X10_net (σ : mS) : e_X10_net σ =
  let σ1 := st σ (10, 0, 0, 0) 5 (nI 0);
  bdV (e_X10_begin σ1) (fun σ2 =>
  b_X10_net_11 (nI 0) σ2) := (EvOf_eq mcode _).trans rfl
set_option maxRecDepth 100000 in
set_option maxHeartbeats 4000000 in
theorem q_X10_net_11 (x1 : Int32) (σ : mS) : b_X10_net_11 x1 σ =
  if x1 < nI 36 then (
    if x1 < 0 ∨ 36 ≤ x1.toNatClampNeg then none else (
    let σ1 := st σ (33, 0, 0, 0) x1.toNatClampNeg (nI 0);
    b_X10_net_11 (x1 + 1) σ1))
  else (
    bdI (e_X10_oneOf (nI 49) (nI 6) σ) (fun v3 σ2 =>
    b_X10_net_46 (v3 + (nI 1)) (nI 0) σ2)) := (EvOf_eq mcode _).trans rfl
set_option maxRecDepth 100000 in
set_option maxHeartbeats 4000000 in
theorem q_X10_net_46 (x1 : Int32) (x2 : Int32) (σ : mS) : b_X10_net_46 x1 x2 σ =
  bdI (e_X10_fine σ) (fun v2 σ1 =>
  if v2 = 0 then (
    bdI (e_X10_wasRight σ1) (fun v4 σ3 =>
    if v4 = 0 then (
      some (some (some (.inl ((-1) - (σ3.1 (10, 0, 0, 0) 8)))), σ3))
    else (
      bdV (e_X10_change σ3) (fun σ5 =>
      b_X10_net_95 x1 x2 (nI 0) σ5))))
  else (
    if σ1.1 (10, 0, 0, 0) 7 < σ1.1 (10, 0, 0, 0) 6 then (
      bdI (e_X10_readPair x1 σ1) (fun v7 σ6 =>
      b_X10_net_46 x1 (x2 + v7) σ6))
    else (
      bdI (e_X10_wasRight σ1) (fun v9 σ8 =>
      if v9 = 0 then (
        some (some (some (.inl ((-1) - (σ8.1 (10, 0, 0, 0) 8)))), σ8))
      else (
        bdV (e_X10_change σ8) (fun σ10 =>
        b_X10_net_95 x1 x2 (nI 0) σ10)))))) := (EvOf_eq mcode _).trans rfl
set_option maxRecDepth 100000 in
set_option maxHeartbeats 4000000 in
theorem q_X10_net_95 (x1 : Int32) (x2 : Int32) (x3 : Int32) (σ : mS) : b_X10_net_95 x1 x2 x3 σ =
  if x3 < nI 1432 then (
    bdI (e_X10_in x3 (nI 2) (nI 14) σ) (fun v2 σ1 =>
    if v2 = 0 then (
      if x3 < 0 ∨ 1432 ≤ x3.toNatClampNeg then none else (
      let σ3 := st σ1 (30, 0, 0, 0) x3.toNatClampNeg (nI 0);
      b_X10_net_95 x1 x2 (x3 + 1) σ3))
    else (
      b_X10_net_95 x1 x2 (x3 + 1) σ1)))
  else (
    if nI 0 < 0 ∨ 1432 ≤ (nI 0).toNatClampNeg then none else (
    let σ4 := st σ (30, 0, 0, 0) ((nI 0).toNatClampNeg) x1;
    b_X10_net_134 x2 (nI 0) σ4)) := (EvOf_eq mcode _).trans rfl
set_option maxRecDepth 100000 in
set_option maxHeartbeats 4000000 in
theorem q_X10_net_134 (x2 : Int32) (x3 : Int32) (σ : mS) : b_X10_net_134 x2 x3 σ =
  if x3 < nI 36 then (
    if x3 < 0 ∨ 36 ≤ x3.toNatClampNeg then none else (
    if (nI 15) + x3 < 0 ∨ 1432 ≤ ((nI 15) + x3).toNatClampNeg then none else (
    let σ1 := st σ (30, 0, 0, 0) (((nI 15) + x3).toNatClampNeg) (σ.1 (33, 0, 0, 0) x3.toNatClampNeg);
    if (nI 51) + x3 < 0 ∨ 1432 ≤ ((nI 51) + x3).toNatClampNeg then none else (
    let σ2 := st σ1 (30, 0, 0, 0) (((nI 51) + x3).toNatClampNeg) (nI 1);
    b_X10_net_134 x2 (x3 + 1) σ2))))
  else (
    b_X10_net_176 x2 (nI 0) σ) := (EvOf_eq mcode _).trans rfl
set_option maxRecDepth 100000 in
set_option maxHeartbeats 4000000 in
theorem q_X10_net_176 (x2 : Int32) (x3 : Int32) (σ : mS) : b_X10_net_176 x2 x3 σ =
  if x3 < nI 6 then (
    if (nI 135) + x3 < 0 ∨ 1432 ≤ ((nI 135) + x3).toNatClampNeg then none else (
    let σ1 := st σ (30, 0, 0, 0) (((nI 135) + x3).toNatClampNeg) (-1);
    b_X10_net_196 x2 x3 (nI 0) σ1))
  else (
    some (some (some (.inl x2)), σ)) := (EvOf_eq mcode _).trans rfl
set_option maxRecDepth 100000 in
set_option maxHeartbeats 4000000 in
theorem q_X10_net_196 (x2 : Int32) (x3 : Int32) (x4 : Int32) (σ : mS) : b_X10_net_196 x2 x3 x4 σ =
  if x4 < nI 4 then (
    bdI (e_X10_at x3 x4 σ) (fun v2 σ1 =>
    if (nI 9) + x4 < 0 ∨ 1432 ≤ ((nI 9) + x4).toNatClampNeg then none else (
    if (nI 1131) + v2 < 0 ∨ 1432 ≤ ((nI 1131) + v2).toNatClampNeg then none else (
    let σ3 := st σ1 (30, 0, 0, 0) (((nI 1131) + v2).toNatClampNeg) (σ1.1 (30, 0, 0, 0) (((nI 9) + x4).toNatClampNeg));
    b_X10_net_196 x2 x3 (x4 + 1) σ3))))
  else (
    b_X10_net_176 x2 (x3 + 1) σ) := (EvOf_eq mcode _).trans rfl
set_option maxRecDepth 100000 in
set_option maxHeartbeats 4000000 in
theorem q_X10_highOf (p0 : Int32) (σ : mS) : e_X10_highOf p0 σ =
  if p0 = 0 then (
    some (some (some (.inl (nI 10))), σ))
  else (
    if p0 = nI 1 then (
      some (some (some (.inl (nI 4))), σ))
    else (
      if p0 = nI 2 then (
        some (some (some (.inl (nI 7))), σ))
      else (
        if p0 < nI 7 then (
          some (some (some (.inl (nI 9))), σ))
        else (
          if p0 < nI 11 then (
            some (some (some (.inl (nI 31))), σ))
          else (
            some (some (some (.inl (nI 63))), σ)))))) := (EvOf_eq mcode _).trans rfl
set_option maxRecDepth 100000 in
set_option maxHeartbeats 4000000 in
theorem q_X10_sets (p1 : Int32) (p2 : Int32) (σ : mS) : e_X10_sets p1 p2 σ =
  let σ1 := st σ (10, 0, 0, 0) 5 (nI 0);
  bdI (e_X10_in p1 (nI 0) (nI 12) σ1) (fun v3 σ2 =>
  if v3 = 0 then (
    some (some (some (.inl (-1))), σ2))
  else (
    if p1 = nI 12 then (
      if (nI 2) + p1 < 0 ∨ 1432 ≤ ((nI 2) + p1).toNatClampNeg then none else (
      if p1 = nI 12 then (
        bdV (e_X10_change σ2) (fun σ4 =>
        if (nI 2) + p1 < 0 ∨ 1432 ≤ ((nI 2) + p1).toNatClampNeg then none else (
        let σ5 := st σ4 (30, 0, 0, 0) (((nI 2) + p1).toNatClampNeg) p2;
        if p1 = nI 12 then (
          some (some (some (.inl (nI 100))), σ5))
        else (
          some (some (some (.inl ((nI 100) + (σ2.1 (30, 0, 0, 0) (((nI 2) + p1).toNatClampNeg))))), σ5)))))
      else (
        if σ2.1 (30, 0, 0, 0) (((nI 2) + p1).toNatClampNeg) = p2 then (
          some (some (some (.inl (-2))), σ2))
        else (
          bdV (e_X10_change σ2) (fun σ6 =>
          if (nI 2) + p1 < 0 ∨ 1432 ≤ ((nI 2) + p1).toNatClampNeg then none else (
          let σ7 := st σ6 (30, 0, 0, 0) (((nI 2) + p1).toNatClampNeg) p2;
          if p1 = nI 12 then (
            some (some (some (.inl (nI 100))), σ7))
          else (
            some (some (some (.inl ((nI 100) + (σ2.1 (30, 0, 0, 0) (((nI 2) + p1).toNatClampNeg))))), σ7))))))))
    else (
      bdI (e_X10_highOf p1 σ2) (fun v9 σ8 =>
      bdI (e_X10_in p2 (nI 1) v9 σ8) (fun v11 σ10 =>
      if v11 = 0 then (
        some (some (some (.inl (-1))), σ10))
      else (
        if (nI 2) + p1 < 0 ∨ 1432 ≤ ((nI 2) + p1).toNatClampNeg then none else (
        if p1 = nI 12 then (
          bdV (e_X10_change σ10) (fun σ12 =>
          if (nI 2) + p1 < 0 ∨ 1432 ≤ ((nI 2) + p1).toNatClampNeg then none else (
          let σ13 := st σ12 (30, 0, 0, 0) (((nI 2) + p1).toNatClampNeg) p2;
          if p1 = nI 12 then (
            some (some (some (.inl (nI 100))), σ13))
          else (
            some (some (some (.inl ((nI 100) + (σ10.1 (30, 0, 0, 0) (((nI 2) + p1).toNatClampNeg))))), σ13)))))
        else (
          if σ10.1 (30, 0, 0, 0) (((nI 2) + p1).toNatClampNeg) = p2 then (
            some (some (some (.inl (-2))), σ10))
          else (
            bdV (e_X10_change σ10) (fun σ14 =>
            if (nI 2) + p1 < 0 ∨ 1432 ≤ ((nI 2) + p1).toNatClampNeg then none else (
            let σ15 := st σ14 (30, 0, 0, 0) (((nI 2) + p1).toNatClampNeg) p2;
            if p1 = nI 12 then (
              some (some (some (.inl (nI 100))), σ15))
            else (
              some (some (some (.inl ((nI 100) + (σ10.1 (30, 0, 0, 0) (((nI 2) + p1).toNatClampNeg))))), σ15))))))))))))) := (EvOf_eq mcode _).trans rfl
set_option maxRecDepth 100000 in
set_option maxHeartbeats 4000000 in
theorem q_X10_setting (p1 : Int32) (σ : mS) : e_X10_setting p1 σ =
  let σ1 := st σ (10, 0, 0, 0) 5 (nI 0);
  bdI (e_X10_in p1 (nI 0) (nI 12) σ1) (fun v3 σ2 =>
  if v3 = 0 then (
    bdI (e_X10_lost σ2) (fun v5 σ4 =>
    some (some (some (.inl v5)), σ4)))
  else (
    if (nI 2) + p1 < 0 ∨ 1432 ≤ ((nI 2) + p1).toNatClampNeg then none else (
    some (some (some (.inl (σ2.1 (30, 0, 0, 0) (((nI 2) + p1).toNatClampNeg)))), σ2)))) := (EvOf_eq mcode _).trans rfl
set_option maxRecDepth 100000 in
set_option maxHeartbeats 4000000 in
theorem q_X10_goesOn (σ : mS) : e_X10_goesOn σ =
  b_X10_goesOn_2 (nI 0) σ := (EvOf_eq mcode _).trans rfl
set_option maxRecDepth 100000 in
set_option maxHeartbeats 4000000 in
theorem q_X10_goesOn_2 (x1 : Int32) (σ : mS) : b_X10_goesOn_2 x1 σ =
  if nI 0 < 0 ∨ 1432 ≤ (nI 0).toNatClampNeg then none else (
  if x1 < σ.1 (30, 0, 0, 0) ((nI 0).toNatClampNeg) then (
    bdI (e_X10_exchangeAt x1 σ) (fun v2 σ1 =>
    if v2 + (nI 0) < 0 ∨ 1432 ≤ (v2 + (nI 0)).toNatClampNeg then none else (
    if σ1.1 (30, 0, 0, 0) ((v2 + (nI 0)).toNatClampNeg) = nI 1 then (
      if nI 1 = 0 ∨ nI 1 = 1 then some (some (some (.inl (nI 1))), σ1) else none)
    else (
      b_X10_goesOn_2 (x1 + 1) σ1))))
  else (
    if nI 0 = 0 ∨ nI 0 = 1 then some (some (some (.inl (nI 0))), σ) else none)) := (EvOf_eq mcode _).trans rfl
set_option maxRecDepth 100000 in
set_option maxHeartbeats 4000000 in
theorem q_X10_sheet (p1 : Int32) (p2 : Int32) (p3 : Int32) (p4 : Int32) (p5 : Int32) (σ : mS) : e_X10_sheet p1 p2 p3 p4 p5 σ =
  let σ1 := st σ (10, 0, 0, 0) 5 (nI 0);
  bdI (e_X10_isRank p1 σ1) (fun v3 σ2 =>
  if v3 = 0 then (
    some (some (some (.inl (-1))), σ2))
  else (
    bdI (e_X10_in p2 (nI 0) (nI 3) σ2) (fun v5 σ4 =>
    if v5 = 0 then (
      some (some (some (.inl (-1))), σ4))
    else (
      if nI 6 < p3 then (
        some (some (some (.inl (-1))), σ4))
      else (
        bdI (e_X10_goesOn σ4) (fun v7 σ6 =>
        if v7 = 0 then (
          if p2 < nI 3 then (
            if p3 < 0 then (
              some (some (some (.inl (-2))), σ6))
            else (
              b_X10_sheet_61 p1 p2 p3 p5 (nI 0) p4 (nI 0) σ6))
          else (
            b_X10_sheet_61 p1 p2 p3 p5 (nI 0) p4 (nI 0) σ6))
        else (
          some (some (some (.inl (-4))), σ6)))))))) := (EvOf_eq mcode _).trans rfl
set_option maxRecDepth 100000 in
set_option maxHeartbeats 4000000 in
theorem q_X10_sheet_61 (x1 : Int32) (x2 : Int32) (x3 : Int32) (x5 : Int32) (x6 : Int32) (x7 : Int32) (x8 : Int32) (σ : mS) : b_X10_sheet_61 x1 x2 x3 x5 x6 x7 x8 σ =
  if nI 0 < 0 ∨ 1432 ≤ (nI 0).toNatClampNeg then none else (
  if x8 < σ.1 (30, 0, 0, 0) ((nI 0).toNatClampNeg) then (
    if x2 = 0 then (
      b_X10_sheet_95 x1 x2 x3 x5 x6 x7 x8 ((x7).toInt8.toInt32) σ)
    else (
      if x2 = nI 1 then (
        b_X10_sheet_95 x1 x2 x3 x5 x6 x7 x8 ((x7).toInt16.toInt32) σ)
      else (
        b_X10_sheet_95 x1 x2 x3 x5 x6 x7 x8 x7 σ)))
  else (
    if x2 = nI 3 then (
      some (some (some (.inl (-3))), σ))
    else (
      some (some (some (.inl x6)), σ)))) := (EvOf_eq mcode _).trans rfl
set_option maxRecDepth 100000 in
set_option maxHeartbeats 4000000 in
theorem q_X10_sheet_95 (x1 : Int32) (x2 : Int32) (x3 : Int32) (x5 : Int32) (x6 : Int32) (x7 : Int32) (x8 : Int32) (t0 : Int32) (σ : mS) : b_X10_sheet_95 x1 x2 x3 x5 x6 x7 x8 t0 σ =
  bdI (e_X10_at x8 x1 σ) (fun v2 σ1 =>
  if (nI 147) + v2 < 0 ∨ 1432 ≤ ((nI 147) + v2).toNatClampNeg then none else (
  let σ3 := st σ1 (30, 0, 0, 0) (((nI 147) + v2).toNatClampNeg) (nI 0);
  if nI 0 < 0 ∨ 1432 ≤ (nI 0).toNatClampNeg then none else (
  if σ3.1 (30, 0, 0, 0) ((nI 0).toNatClampNeg) = 0 then none else (
  if x2 < nI 3 then (
    if x8 < x3 then (
      if 0 < t0 then (
        bdI (e_X10_hears x8 ((x8 + (nI 1)) - (x8 + (nI 1)) / (σ3.1 (30, 0, 0, 0) ((nI 0).toNatClampNeg)) * (σ3.1 (30, 0, 0, 0) ((nI 0).toNatClampNeg))) σ3) (fun v5 σ4 =>
        if v5 = 0 then (
          b_X10_sheet_61 x1 x2 x3 x5 x6 (x7 + x5) (x8 + 1) σ4)
        else (
          if nI 9 = 0 then none else (
          bdV (e_X10_put x8 x1 ((x8 + (nI 1)) - (x8 + (nI 1)) / (σ3.1 (30, 0, 0, 0) ((nI 0).toNatClampNeg)) * (σ3.1 (30, 0, 0, 0) ((nI 0).toNatClampNeg))) ((t0 - t0 / (nI 9) * (nI 9)) + (nI 1)) (nI 0) σ4) (fun σ6 =>
          b_X10_sheet_61 x1 x2 x3 x5 (x6 + 1) (x7 + x5) (x8 + 1) σ6)))))
      else (
        b_X10_sheet_61 x1 x2 x3 x5 x6 (x7 + x5) (x8 + 1) σ3))
    else (
      b_X10_sheet_61 x1 x2 x3 x5 x6 (x7 + x5) (x8 + 1) σ3))
  else (
    b_X10_sheet_61 x1 x2 x3 x5 x6 (x7 + x5) (x8 + 1) σ3))))) := (EvOf_eq mcode _).trans rfl
set_option maxRecDepth 100000 in
set_option maxHeartbeats 4000000 in
theorem q_X10_put (p1 : Int32) (p2 : Int32) (p3 : Int32) (p4 : Int32) (p5 : Int32) (σ : mS) : e_X10_put p1 p2 p3 p4 p5 σ =
  bdI (e_X10_at p1 p2 σ) (fun v2 σ1 =>
  if (nI 147) + v2 < 0 ∨ 1432 ≤ ((nI 147) + v2).toNatClampNeg then none else (
  bdI (e_X10_frameAt p1 p2 (σ1.1 (30, 0, 0, 0) (((nI 147) + v2).toNatClampNeg)) σ1) (fun v4 σ3 =>
  if v4 < 0 ∨ 1432 ≤ v4.toNatClampNeg then none else (
  let σ5 := st σ3 (30, 0, 0, 0) v4.toNatClampNeg p3;
  if v4 + (nI 1) < 0 ∨ 1432 ≤ (v4 + (nI 1)).toNatClampNeg then none else (
  let σ6 := st σ5 (30, 0, 0, 0) ((v4 + (nI 1)).toNatClampNeg) p4;
  if v4 + (nI 2) < 0 ∨ 1432 ≤ (v4 + (nI 2)).toNatClampNeg then none else (
  let σ7 := st σ6 (30, 0, 0, 0) ((v4 + (nI 2)).toNatClampNeg) (nI 0);
  if nI 1 < 0 ∨ 1432 ≤ (nI 1).toNatClampNeg then none else (
  if v4 + (nI 3) < 0 ∨ 1432 ≤ (v4 + (nI 3)).toNatClampNeg then none else (
  let σ8 := st σ7 (30, 0, 0, 0) ((v4 + (nI 3)).toNatClampNeg) (σ7.1 (30, 0, 0, 0) ((nI 1).toNatClampNeg));
  if v4 + (nI 4) < 0 ∨ 1432 ≤ (v4 + (nI 4)).toNatClampNeg then none else (
  let σ9 := st σ8 (30, 0, 0, 0) ((v4 + (nI 4)).toNatClampNeg) p5;
  bdI (e_X10_at p1 p2 σ9) (fun v11 σ10 =>
  if (nI 147) + v11 < 0 ∨ 1432 ≤ ((nI 147) + v11).toNatClampNeg then none else (
  if (nI 147) + v11 < 0 ∨ 1432 ≤ ((nI 147) + v11).toNatClampNeg then none else (
  let σ12 := st σ10 (30, 0, 0, 0) (((nI 147) + v11).toNatClampNeg) ((σ10.1 (30, 0, 0, 0) (((nI 147) + v11).toNatClampNeg)) + (nI 1));
  some (some none, σ12))))))))))))) := (EvOf_eq mcode _).trans rfl
set_option maxRecDepth 100000 in
set_option maxHeartbeats 4000000 in
theorem q_X10_leaves (p1 : Int32) (p2 : Int32) (p3 : Int32) (σ : mS) : e_X10_leaves p1 p2 p3 σ =
  bdI (e_X10_at p1 p2 σ) (fun v2 σ1 =>
  if (nI 147) + v2 < 0 ∨ 1432 ≤ ((nI 147) + v2).toNatClampNeg then none else (
  if (nI 147) + v2 < 0 ∨ 1432 ≤ ((nI 147) + v2).toNatClampNeg then none else (
  let σ3 := st σ1 (30, 0, 0, 0) (((nI 147) + v2).toNatClampNeg) ((σ1.1 (30, 0, 0, 0) (((nI 147) + v2).toNatClampNeg)) - (nI 1));
  b_X10_leaves_21 p1 p2 p3 σ3))) := (EvOf_eq mcode _).trans rfl
set_option maxRecDepth 100000 in
set_option maxHeartbeats 4000000 in
theorem q_X10_leaves_21 (x1 : Int32) (x2 : Int32) (x4 : Int32) (σ : mS) : b_X10_leaves_21 x1 x2 x4 σ =
  bdI (e_X10_at x1 x2 σ) (fun v2 σ1 =>
  if (nI 147) + v2 < 0 ∨ 1432 ≤ ((nI 147) + v2).toNatClampNeg then none else (
  if x4 < σ1.1 (30, 0, 0, 0) (((nI 147) + v2).toNatClampNeg) then (
    b_X10_leaves_43 x1 x2 x4 (nI 0) σ1)
  else (
    some (some none, σ1)))) := (EvOf_eq mcode _).trans rfl
set_option maxRecDepth 100000 in
set_option maxHeartbeats 4000000 in
theorem q_X10_leaves_43 (x1 : Int32) (x2 : Int32) (x4 : Int32) (x5 : Int32) (σ : mS) : b_X10_leaves_43 x1 x2 x4 x5 σ =
  if x5 < nI 5 then (
    bdI (e_X10_frameAt x1 x2 x4 σ) (fun v2 σ1 =>
    bdI (e_X10_frameAt x1 x2 (x4 + (nI 1)) σ1) (fun v4 σ3 =>
    if v4 + x5 < 0 ∨ 1432 ≤ (v4 + x5).toNatClampNeg then none else (
    if v2 + x5 < 0 ∨ 1432 ≤ (v2 + x5).toNatClampNeg then none else (
    let σ5 := st σ3 (30, 0, 0, 0) ((v2 + x5).toNatClampNeg) (σ3.1 (30, 0, 0, 0) ((v4 + x5).toNatClampNeg));
    b_X10_leaves_43 x1 x2 x4 (x5 + 1) σ5)))))
  else (
    b_X10_leaves_21 x1 x2 (x4 + 1) σ) := (EvOf_eq mcode _).trans rfl
set_option maxRecDepth 100000 in
set_option maxHeartbeats 4000000 in
theorem q_X10_refusesOffer (p1 : Int32) (p2 : Int32) (p3 : Int32) (p4 : Int32) (σ : mS) : e_X10_refusesOffer p1 p2 p3 p4 σ =
  bdI (e_X10_isStation p1 σ) (fun v2 σ1 =>
  if v2 = 0 then (
    some (some (some (.inl (-1))), σ1))
  else (
    bdI (e_X10_isRank p2 σ1) (fun v4 σ3 =>
    if v4 = 0 then (
      some (some (some (.inl (-1))), σ3))
    else (
      bdI (e_X10_isStation p3 σ3) (fun v6 σ5 =>
      if v6 = 0 then (
        some (some (some (.inl (-1))), σ5))
      else (
        if p1 = p3 then (
          some (some (some (.inl (-1))), σ5))
        else (
          bdI (e_X10_in p4 (nI 1) (nI 9) σ5) (fun v8 σ7 =>
          if v8 = 0 then (
            some (some (some (.inl (-1))), σ7))
          else (
            bdI (e_X10_hears p1 p3 σ7) (fun v10 σ9 =>
            if v10 = 0 then (
              some (some (some (.inl (-3))), σ9))
            else (
              bdI (e_X10_at p1 p2 σ9) (fun v12 σ11 =>
              if (nI 147) + v12 < 0 ∨ 1432 ≤ ((nI 147) + v12).toNatClampNeg then none else (
              if σ11.1 (30, 0, 0, 0) (((nI 147) + v12).toNatClampNeg) = nI 8 then (
                some (some (some (.inl (-2))), σ11))
              else (
                some (some (some (.inl (nI 0))), σ11))))))))))))))) := (EvOf_eq mcode _).trans rfl
set_option maxRecDepth 100000 in
set_option maxHeartbeats 4000000 in
theorem q_X10_offers (p1 : Int32) (p2 : Int32) (p3 : Int32) (p4 : Int32) (σ : mS) : e_X10_offers p1 p2 p3 p4 σ =
  let σ1 := st σ (10, 0, 0, 0) 5 (nI 0);
  bdI (e_X10_refusesOffer p1 p2 p3 p4 σ1) (fun v3 σ2 =>
  if v3 < 0 then (
    some (some (some (.inl v3)), σ2))
  else (
    bdV (e_X10_change σ2) (fun σ4 =>
    bdV (e_X10_put p1 p2 p3 p4 (nI 0) σ4) (fun σ5 =>
    bdI (e_X10_at p1 p2 σ5) (fun v7 σ6 =>
    if (nI 147) + v7 < 0 ∨ 1432 ≤ ((nI 147) + v7).toNatClampNeg then none else (
    some (some (some (.inl (σ6.1 (30, 0, 0, 0) (((nI 147) + v7).toNatClampNeg)))), σ6))))))) := (EvOf_eq mcode _).trans rfl
set_option maxRecDepth 100000 in
set_option maxHeartbeats 4000000 in
theorem q_X10_isFree (p1 : Int32) (σ : mS) : e_X10_isFree p1 σ =
  bdI (e_X10_exchangeAt p1 σ) (fun v2 σ1 =>
  if v2 + (nI 0) < 0 ∨ 1432 ≤ (v2 + (nI 0)).toNatClampNeg then none else (
  if σ1.1 (30, 0, 0, 0) ((v2 + (nI 0)).toNatClampNeg) = 0 then (
    if (nI 135) + p1 < 0 ∨ 1432 ≤ ((nI 135) + p1).toNatClampNeg then none else (
    if σ1.1 (30, 0, 0, 0) (((nI 135) + p1).toNatClampNeg) = (-1) then (
      if p1 < 0 ∨ 6 ≤ p1.toNatClampNeg then none else (
      if σ1.1 (34, 0, 0, 0) p1.toNatClampNeg = (-1) then (
        if nI 1 = 0 ∨ nI 1 = 1 then some (some (some (.inl (nI 1))), σ1) else none)
      else (
        if nI 0 = 0 ∨ nI 0 = 1 then some (some (some (.inl (nI 0))), σ1) else none)))
    else (
      if nI 0 = 0 ∨ nI 0 = 1 then some (some (some (.inl (nI 0))), σ1) else none)))
  else (
    if nI 0 = 0 ∨ nI 0 = 1 then some (some (some (.inl (nI 0))), σ1) else none))) := (EvOf_eq mcode _).trans rfl
set_option maxRecDepth 100000 in
set_option maxHeartbeats 4000000 in
theorem q_X10_isReady (p1 : Int32) (p2 : Int32) (σ : mS) : e_X10_isReady p1 p2 σ =
  bdI (e_X10_at p1 p2 σ) (fun v2 σ1 =>
  if (nI 147) + v2 < 0 ∨ 1432 ≤ ((nI 147) + v2).toNatClampNeg then none else (
  if 0 < σ1.1 (30, 0, 0, 0) (((nI 147) + v2).toNatClampNeg) then (
    bdI (e_X10_at p1 p2 σ1) (fun v4 σ3 =>
    if (nI 1155) + v4 < 0 ∨ 1432 ≤ ((nI 1155) + v4).toNatClampNeg then none else (
    if σ3.1 (30, 0, 0, 0) (((nI 1155) + v4).toNatClampNeg) = 0 then (
      if (nI 5) + p2 < 0 ∨ 1432 ≤ ((nI 5) + p2).toNatClampNeg then none else (
      if (nI 123) + p1 < 0 ∨ 1432 ≤ ((nI 123) + p1).toNatClampNeg then none else (
      if σ3.1 (30, 0, 0, 0) (((nI 123) + p1).toNatClampNeg) < σ3.1 (30, 0, 0, 0) (((nI 5) + p2).toNatClampNeg) then (
        if nI 0 = 0 ∨ nI 0 = 1 then some (some (some (.inl (nI 0))), σ3) else none)
      else (
        if nI 1 = 0 ∨ nI 1 = 1 then some (some (some (.inl (nI 1))), σ3) else none))))
    else (
      if nI 0 = 0 ∨ nI 0 = 1 then some (some (some (.inl (nI 0))), σ3) else none))))
  else (
    if nI 0 = 0 ∨ nI 0 = 1 then some (some (some (.inl (nI 0))), σ1) else none))) := (EvOf_eq mcode _).trans rfl
set_option maxRecDepth 100000 in
set_option maxHeartbeats 4000000 in
theorem q_X10_had (p1 : Int32) (p2 : Int32) (p3 : Int32) (σ : mS) : e_X10_had p1 p2 p3 σ =
  if ((nI 1275) + ((nI 9) * p1)) + p2 < 0 ∨ 1432 ≤ (((nI 1275) + ((nI 9) * p1)) + p2).toNatClampNeg then none else (
  if ((nI 1275) + ((nI 9) * p1)) + p2 < 0 ∨ 1432 ≤ (((nI 1275) + ((nI 9) * p1)) + p2).toNatClampNeg then none else (
  let σ1 := st σ (30, 0, 0, 0) ((((nI 1275) + ((nI 9) * p1)) + p2).toNatClampNeg) ((σ.1 (30, 0, 0, 0) ((((nI 1275) + ((nI 9) * p1)) + p2).toNatClampNeg)) + p3);
  some (some none, σ1))) := (EvOf_eq mcode _).trans rfl
set_option maxRecDepth 100000 in
set_option maxHeartbeats 4000000 in
theorem q_X10_drawsCount (p1 : Int32) (p2 : Int32) (σ : mS) : e_X10_drawsCount p1 p2 σ =
  bdI (e_X10_at p1 p2 σ) (fun v2 σ1 =>
  bdI (e_X10_at p1 p2 σ1) (fun v4 σ3 =>
  if (nI 1131) + v4 < 0 ∨ 1432 ≤ ((nI 1131) + v4).toNatClampNeg then none else (
  bdI (e_X10_draw ((σ3.1 (30, 0, 0, 0) (((nI 1131) + v4).toNatClampNeg)) + (nI 1)) σ3) (fun v6 σ5 =>
  if (nI 1155) + v2 < 0 ∨ 1432 ≤ ((nI 1155) + v2).toNatClampNeg then none else (
  let σ7 := st σ5 (30, 0, 0, 0) (((nI 1155) + v2).toNatClampNeg) v6;
  some (some none, σ7)))))) := (EvOf_eq mcode _).trans rfl
set_option maxRecDepth 100000 in
set_option maxHeartbeats 4000000 in
theorem q_X10_isLost (p1 : Int32) (p2 : Int32) (p3 : Int32) (σ : mS) : e_X10_isLost p1 p2 p3 σ =
  bdV (e_X10_leaves p1 p2 p3 σ) (fun σ1 =>
  bdV (e_X10_had p1 (nI 2) (nI 1) σ1) (fun σ2 =>
  if nI 1337 < 0 ∨ 1432 ≤ (nI 1337).toNatClampNeg then none else (
  if nI 1337 < 0 ∨ 1432 ≤ (nI 1337).toNatClampNeg then none else (
  let σ3 := st σ2 (30, 0, 0, 0) ((nI 1337).toNatClampNeg) ((σ2.1 (30, 0, 0, 0) ((nI 1337).toNatClampNeg)) + (nI 1));
  some (some none, σ3))))) := (EvOf_eq mcode _).trans rfl
set_option maxRecDepth 100000 in
set_option maxHeartbeats 4000000 in
theorem q_X10_fails (p1 : Int32) (p2 : Int32) (σ : mS) : e_X10_fails p1 p2 σ =
  bdI (e_X10_frameAt p1 p2 (nI 0) σ) (fun v2 σ1 =>
  if v2 + (nI 2) < 0 ∨ 1432 ≤ (v2 + (nI 2)).toNatClampNeg then none else (
  if v2 + (nI 2) < 0 ∨ 1432 ≤ (v2 + (nI 2)).toNatClampNeg then none else (
  let σ3 := st σ1 (30, 0, 0, 0) ((v2 + (nI 2)).toNatClampNeg) ((σ1.1 (30, 0, 0, 0) ((v2 + (nI 2)).toNatClampNeg)) + (nI 1));
  bdI (e_X10_at p1 p2 σ3) (fun v5 σ4 =>
  if v2 + (nI 2) < 0 ∨ 1432 ≤ (v2 + (nI 2)).toNatClampNeg then none else (
  if nI 4 < 0 ∨ 1432 ≤ (nI 4).toNatClampNeg then none else (
  if σ4.1 (30, 0, 0, 0) ((v2 + (nI 2)).toNatClampNeg) < σ4.1 (30, 0, 0, 0) ((nI 4).toNatClampNeg) then (
    if (nI 1131) + v5 < 0 ∨ 1432 ≤ ((nI 1131) + v5).toNatClampNeg then none else (
    if nI 13 < 0 ∨ 1432 ≤ (nI 13).toNatClampNeg then none else (
    if (nI 1131) + v5 < 0 ∨ 1432 ≤ ((nI 1131) + v5).toNatClampNeg then none else (
    let σ6 := st σ4 (30, 0, 0, 0) (((nI 1131) + v5).toNatClampNeg) (if σ4.1 (30, 0, 0, 0) ((nI 13).toNatClampNeg) < ((nI 2) * (σ4.1 (30, 0, 0, 0) (((nI 1131) + v5).toNatClampNeg))) + (nI 1) then σ4.1 (30, 0, 0, 0) ((nI 13).toNatClampNeg) else ((nI 2) * (σ4.1 (30, 0, 0, 0) (((nI 1131) + v5).toNatClampNeg))) + (nI 1));
    bdV (e_X10_drawsCount p1 p2 σ6) (fun σ7 =>
    some (some none, σ7))))))
  else (
    bdV (e_X10_isLost p1 p2 (nI 0) σ4) (fun σ8 =>
    if (nI 9) + p2 < 0 ∨ 1432 ≤ ((nI 9) + p2).toNatClampNeg then none else (
    if (nI 1131) + v5 < 0 ∨ 1432 ≤ ((nI 1131) + v5).toNatClampNeg then none else (
    let σ9 := st σ8 (30, 0, 0, 0) (((nI 1131) + v5).toNatClampNeg) (σ8.1 (30, 0, 0, 0) (((nI 9) + p2).toNatClampNeg));
    bdV (e_X10_drawsCount p1 p2 σ9) (fun σ10 =>
    some (some none, σ10)))))))))))) := (EvOf_eq mcode _).trans rfl
set_option maxRecDepth 100000 in
set_option maxHeartbeats 4000000 in
theorem q_X10_roundedUp (p0 : Int32) (p1 : Int32) (σ : mS) : e_X10_roundedUp p0 p1 σ =
  if p1 = 0 then none else (
  some (some (some (.inl (((p0 + p1) - (nI 1)) / p1))), σ)) := (EvOf_eq mcode _).trans rfl
set_option maxRecDepth 100000 in
set_option maxHeartbeats 4000000 in
theorem q_X10_begins (p1 : Int32) (p2 : Int32) (σ : mS) : e_X10_begins p1 p2 σ =
  bdI (e_X10_exchangeAt p1 σ) (fun v2 σ1 =>
  b_X10_begins_8 p1 p2 v2 (nI 0) σ1) := (EvOf_eq mcode _).trans rfl
set_option maxRecDepth 100000 in
set_option maxHeartbeats 4000000 in
theorem q_X10_begins_8 (x1 : Int32) (x2 : Int32) (x3 : Int32) (x4 : Int32) (σ : mS) : b_X10_begins_8 x1 x2 x3 x4 σ =
  if x4 < nI 16 then (
    if x3 + x4 < 0 ∨ 1432 ≤ (x3 + x4).toNatClampNeg then none else (
    let σ1 := st σ (30, 0, 0, 0) ((x3 + x4).toNatClampNeg) (nI 0);
    b_X10_begins_8 x1 x2 x3 (x4 + 1) σ1))
  else (
    bdI (e_X10_frameAt x1 x2 (nI 0) σ) (fun v3 σ2 =>
    if v3 < 0 ∨ 1432 ≤ v3.toNatClampNeg then none else (
    b_X10_begins_50 x1 x2 x3 (σ2.1 (30, 0, 0, 0) v3.toNatClampNeg) (nI 0) (nI 0) σ2))) := (EvOf_eq mcode _).trans rfl
set_option maxRecDepth 100000 in
set_option maxHeartbeats 4000000 in
theorem q_X10_begins_50 (x1 : Int32) (x2 : Int32) (x3 : Int32) (x4 : Int32) (x5 : Int32) (x6 : Int32) (σ : mS) : b_X10_begins_50 x1 x2 x3 x4 x5 x6 σ =
  bdI (e_X10_at x1 x2 σ) (fun v2 σ1 =>
  if (nI 147) + v2 < 0 ∨ 1432 ≤ ((nI 147) + v2).toNatClampNeg then none else (
  if x5 < σ1.1 (30, 0, 0, 0) (((nI 147) + v2).toNatClampNeg) then (
    if nI 3 < 0 ∨ 1432 ≤ (nI 3).toNatClampNeg then none else (
    if x5 < σ1.1 (30, 0, 0, 0) ((nI 3).toNatClampNeg) then (
      bdI (e_X10_frameAt x1 x2 x5 σ1) (fun v4 σ3 =>
      if v4 < 0 ∨ 1432 ≤ v4.toNatClampNeg then none else (
      if σ3.1 (30, 0, 0, 0) v4.toNatClampNeg = x4 then (
        bdI (e_X10_frameAt x1 x2 x5 σ3) (fun v6 σ5 =>
        if v6 + (nI 1) < 0 ∨ 1432 ≤ (v6 + (nI 1)).toNatClampNeg then none else (
        if ((nI 51) + ((nI 6) * x1)) + x4 < 0 ∨ 1432 ≤ (((nI 51) + ((nI 6) * x1)) + x4).toNatClampNeg then none else (
        bdI (e_X10_roundedUp (σ5.1 (30, 0, 0, 0) ((v6 + (nI 1)).toNatClampNeg)) (σ5.1 (30, 0, 0, 0) ((((nI 51) + ((nI 6) * x1)) + x4).toNatClampNeg)) σ5) (fun v8 σ7 =>
        if (x3 + (nI 11)) + x5 < 0 ∨ 1432 ≤ ((x3 + (nI 11)) + x5).toNatClampNeg then none else (
        let σ9 := st σ7 (30, 0, 0, 0) (((x3 + (nI 11)) + x5).toNatClampNeg) v8;
        if (x3 + (nI 11)) + x5 < 0 ∨ 1432 ≤ ((x3 + (nI 11)) + x5).toNatClampNeg then none else (
        b_X10_begins_50 x1 x2 x3 x4 (x5 + 1) (x6 + (σ9.1 (30, 0, 0, 0) (((x3 + (nI 11)) + x5).toNatClampNeg))) σ9)))))))
      else (
        if nI 2 < 0 ∨ 1432 ≤ (nI 2).toNatClampNeg then none else (
        if x6 < σ3.1 (30, 0, 0, 0) ((nI 2).toNatClampNeg) then (
          b_X10_begins_180 x1 x2 x3 x4 x5 x6 (nI 0) σ3)
        else (
          b_X10_begins_180 x1 x2 x3 x4 x5 x6 (nI 1) σ3))))))
    else (
      if nI 2 < 0 ∨ 1432 ≤ (nI 2).toNatClampNeg then none else (
      if x6 < σ1.1 (30, 0, 0, 0) ((nI 2).toNatClampNeg) then (
        b_X10_begins_180 x1 x2 x3 x4 x5 x6 (nI 0) σ1)
      else (
        b_X10_begins_180 x1 x2 x3 x4 x5 x6 (nI 1) σ1)))))
  else (
    if nI 2 < 0 ∨ 1432 ≤ (nI 2).toNatClampNeg then none else (
    if x6 < σ1.1 (30, 0, 0, 0) ((nI 2).toNatClampNeg) then (
      b_X10_begins_180 x1 x2 x3 x4 x5 x6 (nI 0) σ1)
    else (
      b_X10_begins_180 x1 x2 x3 x4 x5 x6 (nI 1) σ1))))) := (EvOf_eq mcode _).trans rfl
set_option maxRecDepth 100000 in
set_option maxHeartbeats 4000000 in
theorem q_X10_begins_180 (x1 : Int32) (x2 : Int32) (x3 : Int32) (x4 : Int32) (x5 : Int32) (x6 : Int32) (t0 : Int32) (σ : mS) : b_X10_begins_180 x1 x2 x3 x4 x5 x6 t0 σ =
  if x3 + (nI 0) < 0 ∨ 1432 ≤ (x3 + (nI 0)).toNatClampNeg then none else (
  let σ1 := st σ (30, 0, 0, 0) ((x3 + (nI 0)).toNatClampNeg) (nI 1);
  if x3 + (nI 1) < 0 ∨ 1432 ≤ (x3 + (nI 1)).toNatClampNeg then none else (
  let σ2 := st σ1 (30, 0, 0, 0) ((x3 + (nI 1)).toNatClampNeg) x4;
  if x3 + (nI 2) < 0 ∨ 1432 ≤ (x3 + (nI 2)).toNatClampNeg then none else (
  let σ3 := st σ2 (30, 0, 0, 0) ((x3 + (nI 2)).toNatClampNeg) x2;
  if x3 + (nI 3) < 0 ∨ 1432 ≤ (x3 + (nI 3)).toNatClampNeg then none else (
  let σ4 := st σ3 (30, 0, 0, 0) ((x3 + (nI 3)).toNatClampNeg) x5;
  if t0 = 0 then (
    if x3 + (nI 4) < 0 ∨ 1432 ≤ (x3 + (nI 4)).toNatClampNeg then none else (
    let σ5 := st σ4 (30, 0, 0, 0) ((x3 + (nI 4)).toNatClampNeg) (nI 2);
    if x3 + (nI 5) < 0 ∨ 1432 ≤ (x3 + (nI 5)).toNatClampNeg then none else (
    let σ6 := st σ5 (30, 0, 0, 0) ((x3 + (nI 5)).toNatClampNeg) x6;
    if x3 + (nI 11) < 0 ∨ 1432 ≤ (x3 + (nI 11)).toNatClampNeg then none else (
    if x3 + (nI 8) < 0 ∨ 1432 ≤ (x3 + (nI 8)).toNatClampNeg then none else (
    let σ7 := st σ6 (30, 0, 0, 0) ((x3 + (nI 8)).toNatClampNeg) (σ6.1 (30, 0, 0, 0) ((x3 + (nI 11)).toNatClampNeg));
    if x3 + (nI 9) < 0 ∨ 1432 ≤ (x3 + (nI 9)).toNatClampNeg then none else (
    let σ8 := st σ7 (30, 0, 0, 0) ((x3 + (nI 9)).toNatClampNeg) (nI 1);
    if nI 1 < 0 ∨ 1432 ≤ (nI 1).toNatClampNeg then none else (
    if t0 = 0 then (
      if x3 + (nI 10) < 0 ∨ 1432 ≤ (x3 + (nI 10)).toNatClampNeg then none else (
      let σ9 := st σ8 (30, 0, 0, 0) ((x3 + (nI 10)).toNatClampNeg) ((((σ8.1 (30, 0, 0, 0) ((nI 1).toNatClampNeg)) + (nI 0)) + x6) + (nI 1));
      bdV (e_X10_had x1 (nI 3) (nI 1) σ9) (fun σ10 =>
      if nI 1341 < 0 ∨ 1432 ≤ (nI 1341).toNatClampNeg then none else (
      if nI 1341 < 0 ∨ 1432 ≤ (nI 1341).toNatClampNeg then none else (
      let σ11 := st σ10 (30, 0, 0, 0) ((nI 1341).toNatClampNeg) ((σ10.1 (30, 0, 0, 0) ((nI 1341).toNatClampNeg)) ||| ((nI 1) <<< (x1 &&& 31)));
      some (some none, σ11))))))
    else (
      if x3 + (nI 10) < 0 ∨ 1432 ≤ (x3 + (nI 10)).toNatClampNeg then none else (
      let σ12 := st σ8 (30, 0, 0, 0) ((x3 + (nI 10)).toNatClampNeg) ((((σ8.1 (30, 0, 0, 0) ((nI 1).toNatClampNeg)) + (nI 2)) + x6) + (nI 1));
      bdV (e_X10_had x1 (nI 3) (nI 1) σ12) (fun σ13 =>
      if nI 1341 < 0 ∨ 1432 ≤ (nI 1341).toNatClampNeg then none else (
      if nI 1341 < 0 ∨ 1432 ≤ (nI 1341).toNatClampNeg then none else (
      let σ14 := st σ13 (30, 0, 0, 0) ((nI 1341).toNatClampNeg) ((σ13.1 (30, 0, 0, 0) ((nI 1341).toNatClampNeg)) ||| ((nI 1) <<< (x1 &&& 31)));
      some (some none, σ14)))))))))))))
  else (
    if x3 + (nI 4) < 0 ∨ 1432 ≤ (x3 + (nI 4)).toNatClampNeg then none else (
    let σ15 := st σ4 (30, 0, 0, 0) ((x3 + (nI 4)).toNatClampNeg) (nI 0);
    if x3 + (nI 5) < 0 ∨ 1432 ≤ (x3 + (nI 5)).toNatClampNeg then none else (
    let σ16 := st σ15 (30, 0, 0, 0) ((x3 + (nI 5)).toNatClampNeg) x6;
    if x3 + (nI 11) < 0 ∨ 1432 ≤ (x3 + (nI 11)).toNatClampNeg then none else (
    if x3 + (nI 8) < 0 ∨ 1432 ≤ (x3 + (nI 8)).toNatClampNeg then none else (
    let σ17 := st σ16 (30, 0, 0, 0) ((x3 + (nI 8)).toNatClampNeg) (σ16.1 (30, 0, 0, 0) ((x3 + (nI 11)).toNatClampNeg));
    if x3 + (nI 9) < 0 ∨ 1432 ≤ (x3 + (nI 9)).toNatClampNeg then none else (
    let σ18 := st σ17 (30, 0, 0, 0) ((x3 + (nI 9)).toNatClampNeg) (nI 1);
    if nI 1 < 0 ∨ 1432 ≤ (nI 1).toNatClampNeg then none else (
    if t0 = 0 then (
      if x3 + (nI 10) < 0 ∨ 1432 ≤ (x3 + (nI 10)).toNatClampNeg then none else (
      let σ19 := st σ18 (30, 0, 0, 0) ((x3 + (nI 10)).toNatClampNeg) ((((σ18.1 (30, 0, 0, 0) ((nI 1).toNatClampNeg)) + (nI 0)) + x6) + (nI 1));
      bdV (e_X10_had x1 (nI 3) (nI 1) σ19) (fun σ20 =>
      if nI 1341 < 0 ∨ 1432 ≤ (nI 1341).toNatClampNeg then none else (
      if nI 1341 < 0 ∨ 1432 ≤ (nI 1341).toNatClampNeg then none else (
      let σ21 := st σ20 (30, 0, 0, 0) ((nI 1341).toNatClampNeg) ((σ20.1 (30, 0, 0, 0) ((nI 1341).toNatClampNeg)) ||| ((nI 1) <<< (x1 &&& 31)));
      some (some none, σ21))))))
    else (
      if x3 + (nI 10) < 0 ∨ 1432 ≤ (x3 + (nI 10)).toNatClampNeg then none else (
      let σ22 := st σ18 (30, 0, 0, 0) ((x3 + (nI 10)).toNatClampNeg) ((((σ18.1 (30, 0, 0, 0) ((nI 1).toNatClampNeg)) + (nI 2)) + x6) + (nI 1));
      bdV (e_X10_had x1 (nI 3) (nI 1) σ22) (fun σ23 =>
      if nI 1341 < 0 ∨ 1432 ≤ (nI 1341).toNatClampNeg then none else (
      if nI 1341 < 0 ∨ 1432 ≤ (nI 1341).toNatClampNeg then none else (
      let σ24 := st σ23 (30, 0, 0, 0) ((nI 1341).toNatClampNeg) ((σ23.1 (30, 0, 0, 0) ((nI 1341).toNatClampNeg)) ||| ((nI 1) <<< (x1 &&& 31)));
      some (some none, σ24))))))))))))))))) := (EvOf_eq mcode _).trans rfl
set_option maxRecDepth 100000 in
set_option maxHeartbeats 4000000 in
theorem q_X10_stepBegin (σ : mS) : e_X10_stepBegin σ =
  if nI 1341 < 0 ∨ 1432 ≤ (nI 1341).toNatClampNeg then none else (
  let σ1 := st σ (30, 0, 0, 0) ((nI 1341).toNatClampNeg) (nI 0);
  if nI 1331 < 0 ∨ 1432 ≤ (nI 1331).toNatClampNeg then none else (
  let σ2 := st σ1 (30, 0, 0, 0) ((nI 1331).toNatClampNeg) (nI 0);
  b_X10_stepBegin_20 (nI 0) σ2)) := (EvOf_eq mcode _).trans rfl
set_option maxRecDepth 100000 in
set_option maxHeartbeats 4000000 in
theorem q_X10_stepBegin_20 (x1 : Int32) (σ : mS) : b_X10_stepBegin_20 x1 σ =
  if nI 0 < 0 ∨ 1432 ≤ (nI 0).toNatClampNeg then none else (
  if x1 < σ.1 (30, 0, 0, 0) ((nI 0).toNatClampNeg) then (
    if x1 < 0 ∨ 6 ≤ x1.toNatClampNeg then none else (
    let σ1 := st σ (34, 0, 0, 0) x1.toNatClampNeg (-1);
    if x1 < 0 ∨ 6 ≤ x1.toNatClampNeg then none else (
    let σ2 := st σ1 (35, 0, 0, 0) x1.toNatClampNeg (nI 0);
    if nI 1 < 0 ∨ 1432 ≤ (nI 1).toNatClampNeg then none else (
    if (nI 129) + x1 < 0 ∨ 1432 ≤ ((nI 129) + x1).toNatClampNeg then none else (
    if σ2.1 (30, 0, 0, 0) ((nI 1).toNatClampNeg) < σ2.1 (30, 0, 0, 0) (((nI 129) + x1).toNatClampNeg) then (
      if nI 1331 < 0 ∨ 1432 ≤ (nI 1331).toNatClampNeg then none else (
      if nI 1331 < 0 ∨ 1432 ≤ (nI 1331).toNatClampNeg then none else (
      let σ3 := st σ2 (30, 0, 0, 0) ((nI 1331).toNatClampNeg) ((σ2.1 (30, 0, 0, 0) ((nI 1331).toNatClampNeg)) ||| ((nI 1) <<< (x1 &&& 31)));
      b_X10_stepBegin_20 (x1 + 1) σ3)))
    else (
      b_X10_stepBegin_20 (x1 + 1) σ2))))))
  else (
    b_X10_stepBegin_85 (nI 0) σ)) := (EvOf_eq mcode _).trans rfl
set_option maxRecDepth 100000 in
set_option maxHeartbeats 4000000 in
theorem q_X10_stepBegin_85 (x1 : Int32) (σ : mS) : b_X10_stepBegin_85 x1 σ =
  if nI 0 < 0 ∨ 1432 ≤ (nI 0).toNatClampNeg then none else (
  if x1 < σ.1 (30, 0, 0, 0) ((nI 0).toNatClampNeg) then (
    bdI (e_X10_isFree x1 σ) (fun v2 σ1 =>
    if v2 = 0 then (
      b_X10_stepBegin_85 (x1 + 1) σ1)
    else (
      if nI 1331 < 0 ∨ 1432 ≤ (nI 1331).toNatClampNeg then none else (
      bdI (e_X10_has (σ1.1 (30, 0, 0, 0) ((nI 1331).toNatClampNeg)) x1 σ1) (fun v4 σ3 =>
      if v4 = 0 then (
        b_X10_stepBegin_125 x1 (nI 0) (nI 0) σ3)
      else (
        b_X10_stepBegin_85 (x1 + 1) σ3))))))
  else (
    some (some none, σ))) := (EvOf_eq mcode _).trans rfl
set_option maxRecDepth 100000 in
set_option maxHeartbeats 4000000 in
theorem q_X10_stepBegin_125 (x1 : Int32) (x2 : Int32) (x3 : Int32) (σ : mS) : b_X10_stepBegin_125 x1 x2 x3 σ =
  if x3 < nI 4 then (
    bdI (e_X10_isReady x1 x3 σ) (fun v2 σ1 =>
    if v2 = 0 then (
      b_X10_stepBegin_125 x1 x2 (x3 + 1) σ1)
    else (
      if x2 = 0 then (
        bdV (e_X10_begins x1 x3 σ1) (fun σ3 =>
        b_X10_stepBegin_125 x1 (nI 1) (x3 + 1) σ3))
      else (
        bdV (e_X10_fails x1 x3 σ1) (fun σ4 =>
        bdV (e_X10_had x1 (nI 6) (nI 1) σ4) (fun σ5 =>
        if nI 1339 < 0 ∨ 1432 ≤ (nI 1339).toNatClampNeg then none else (
        if nI 1339 < 0 ∨ 1432 ≤ (nI 1339).toNatClampNeg then none else (
        let σ6 := st σ5 (30, 0, 0, 0) ((nI 1339).toNatClampNeg) ((σ5.1 (30, 0, 0, 0) ((nI 1339).toNatClampNeg)) + (nI 1));
        b_X10_stepBegin_125 x1 (nI 1) (x3 + 1) σ6))))))))
  else (
    b_X10_stepBegin_85 (x1 + 1) σ) := (EvOf_eq mcode _).trans rfl
set_option maxRecDepth 100000 in
set_option maxHeartbeats 4000000 in
theorem q_X10_stepSend (σ : mS) : e_X10_stepSend σ =
  let σ1 := st σ (10, 0, 0, 0) 12 (nI 0);
  b_X10_stepSend_9 (nI 0) (nI 0) σ1 := (EvOf_eq mcode _).trans rfl
set_option maxRecDepth 100000 in
set_option maxHeartbeats 4000000 in
theorem q_X10_stepSend_9 (x1 : Int32) (x2 : Int32) (σ : mS) : b_X10_stepSend_9 x1 x2 σ =
  if nI 0 < 0 ∨ 1432 ≤ (nI 0).toNatClampNeg then none else (
  if x2 < σ.1 (30, 0, 0, 0) ((nI 0).toNatClampNeg) then (
    bdI (e_X10_exchangeAt x2 σ) (fun v2 σ1 =>
    if v2 + (nI 0) < 0 ∨ 1432 ≤ (v2 + (nI 0)).toNatClampNeg then none else (
    if σ1.1 (30, 0, 0, 0) ((v2 + (nI 0)).toNatClampNeg) = nI 1 then (
      if v2 + (nI 4) < 0 ∨ 1432 ≤ (v2 + (nI 4)).toNatClampNeg then none else (
      if σ1.1 (30, 0, 0, 0) ((v2 + (nI 4)).toNatClampNeg) = 0 then (
        b_X10_stepSend_78 x1 x2 (nI 1) σ1)
      else (
        if v2 + (nI 4) < 0 ∨ 1432 ≤ (v2 + (nI 4)).toNatClampNeg then none else (
        if σ1.1 (30, 0, 0, 0) ((v2 + (nI 4)).toNatClampNeg) = nI 2 then (
          b_X10_stepSend_78 x1 x2 (nI 1) σ1)
        else (
          if (nI 135) + x2 < 0 ∨ 1432 ≤ ((nI 135) + x2).toNatClampNeg then none else (
          if σ1.1 (30, 0, 0, 0) (((nI 135) + x2).toNatClampNeg) = (-1) then (
            b_X10_stepSend_78 x1 x2 (nI 0) σ1)
          else (
            b_X10_stepSend_78 x1 x2 (nI 1) σ1)))))))
    else (
      if (nI 135) + x2 < 0 ∨ 1432 ≤ ((nI 135) + x2).toNatClampNeg then none else (
      if σ1.1 (30, 0, 0, 0) (((nI 135) + x2).toNatClampNeg) = (-1) then (
        b_X10_stepSend_78 x1 x2 (nI 0) σ1)
      else (
        b_X10_stepSend_78 x1 x2 (nI 1) σ1))))))
  else (
    if nI 1329 < 0 ∨ 1432 ≤ (nI 1329).toNatClampNeg then none else (
    let σ3 := st σ (30, 0, 0, 0) ((nI 1329).toNatClampNeg) (σ.1 (10, 0, 0, 0) 12);
    if nI 1332 < 0 ∨ 1432 ≤ (nI 1332).toNatClampNeg then none else (
    let σ4 := st σ3 (30, 0, 0, 0) ((nI 1332).toNatClampNeg) (nI 1);
    if x1 = 0 then (
      if nI 1334 < 0 ∨ 1432 ≤ (nI 1334).toNatClampNeg then none else (
      if nI 1334 < 0 ∨ 1432 ≤ (nI 1334).toNatClampNeg then none else (
      let σ5 := st σ4 (30, 0, 0, 0) ((nI 1334).toNatClampNeg) ((σ4.1 (30, 0, 0, 0) ((nI 1334).toNatClampNeg)) + (nI 1));
      if nI 1330 < 0 ∨ 1432 ≤ (nI 1330).toNatClampNeg then none else (
      let σ6 := st σ5 (30, 0, 0, 0) ((nI 1330).toNatClampNeg) (nI 0);
      b_X10_stepSend_181 (nI 0) σ6))))
    else (
      if x1 = nI 1 then (
        if nI 1333 < 0 ∨ 1432 ≤ (nI 1333).toNatClampNeg then none else (
        if nI 1333 < 0 ∨ 1432 ≤ (nI 1333).toNatClampNeg then none else (
        let σ7 := st σ4 (30, 0, 0, 0) ((nI 1333).toNatClampNeg) ((σ4.1 (30, 0, 0, 0) ((nI 1333).toNatClampNeg)) + (nI 1));
        if nI 1330 < 0 ∨ 1432 ≤ (nI 1330).toNatClampNeg then none else (
        let σ8 := st σ7 (30, 0, 0, 0) ((nI 1330).toNatClampNeg) (nI 0);
        b_X10_stepSend_181 (nI 0) σ8))))
      else (
        if nI 1335 < 0 ∨ 1432 ≤ (nI 1335).toNatClampNeg then none else (
        if nI 1335 < 0 ∨ 1432 ≤ (nI 1335).toNatClampNeg then none else (
        let σ9 := st σ4 (30, 0, 0, 0) ((nI 1335).toNatClampNeg) ((σ4.1 (30, 0, 0, 0) ((nI 1335).toNatClampNeg)) + (nI 1));
        if nI 1330 < 0 ∨ 1432 ≤ (nI 1330).toNatClampNeg then none else (
        let σ10 := st σ9 (30, 0, 0, 0) ((nI 1330).toNatClampNeg) (nI 0);
        b_X10_stepSend_181 (nI 0) σ10))))))))) := (EvOf_eq mcode _).trans rfl
set_option maxRecDepth 100000 in
set_option maxHeartbeats 4000000 in
theorem q_X10_stepSend_78 (x1 : Int32) (x2 : Int32) (t0 : Int32) (σ : mS) : b_X10_stepSend_78 x1 x2 t0 σ =
  if t0 = 0 then (
    b_X10_stepSend_9 x1 (x2 + 1) σ)
  else (
    let σ1 := st σ (10, 0, 0, 0) 12 ((σ.1 (10, 0, 0, 0) 12) ||| ((nI 1) <<< (x2 &&& 31)));
    bdV (e_X10_had x2 (nI 5) (nI 1) σ1) (fun σ2 =>
    b_X10_stepSend_9 (x1 + 1) (x2 + 1) σ2)) := (EvOf_eq mcode _).trans rfl
set_option maxRecDepth 100000 in
set_option maxHeartbeats 4000000 in
theorem q_X10_stepSend_181 (x2 : Int32) (σ : mS) : b_X10_stepSend_181 x2 σ =
  if nI 0 < 0 ∨ 1432 ≤ (nI 0).toNatClampNeg then none else (
  if x2 < σ.1 (30, 0, 0, 0) ((nI 0).toNatClampNeg) then (
    b_X10_stepSend_193 x2 (nI 0) σ)
  else (
    some (some none, σ))) := (EvOf_eq mcode _).trans rfl
set_option maxRecDepth 100000 in
set_option maxHeartbeats 4000000 in
theorem q_X10_stepSend_193 (x2 : Int32) (x3 : Int32) (σ : mS) : b_X10_stepSend_193 x2 x3 σ =
  if nI 0 < 0 ∨ 1432 ≤ (nI 0).toNatClampNeg then none else (
  if x3 < σ.1 (30, 0, 0, 0) ((nI 0).toNatClampNeg) then (
    bdI (e_X10_isClear x2 x3 σ) (fun v2 σ1 =>
    if v2 = 0 then (
      b_X10_stepSend_193 x2 (x3 + 1) σ1)
    else (
      if nI 1330 < 0 ∨ 1432 ≤ (nI 1330).toNatClampNeg then none else (
      if nI 1330 < 0 ∨ 1432 ≤ (nI 1330).toNatClampNeg then none else (
      let σ3 := st σ1 (30, 0, 0, 0) ((nI 1330).toNatClampNeg) ((σ1.1 (30, 0, 0, 0) ((nI 1330).toNatClampNeg)) ||| ((nI 1) <<< (x2 &&& 31)));
      b_X10_stepSend_193 x2 (x3 + 1) σ3)))))
  else (
    b_X10_stepSend_181 (x2 + 1) σ)) := (EvOf_eq mcode _).trans rfl
set_option maxRecDepth 100000 in
set_option maxHeartbeats 4000000 in
theorem q_X10_hearsOthers (p1 : Int32) (p2 : Int32) (σ : mS) : e_X10_hearsOthers p1 p2 σ =
  b_X10_hearsOthers_2 p1 p2 (nI 0) σ := (EvOf_eq mcode _).trans rfl
set_option maxRecDepth 100000 in
set_option maxHeartbeats 4000000 in
theorem q_X10_hearsOthers_2 (x1 : Int32) (x2 : Int32) (x3 : Int32) (σ : mS) : b_X10_hearsOthers_2 x1 x2 x3 σ =
  if nI 0 < 0 ∨ 1432 ≤ (nI 0).toNatClampNeg then none else (
  if x3 < σ.1 (30, 0, 0, 0) ((nI 0).toNatClampNeg) then (
    if x3 = x2 then (
      b_X10_hearsOthers_2 x1 x2 (x3 + 1) σ)
    else (
      bdI (e_X10_hears x1 x3 σ) (fun v2 σ1 =>
      if v2 = 0 then (
        b_X10_hearsOthers_2 x1 x2 (x3 + 1) σ1)
      else (
        bdI (e_X10_has (σ1.1 (10, 0, 0, 0) 12) x3 σ1) (fun v4 σ3 =>
        if v4 = 0 then (
          b_X10_hearsOthers_2 x1 x2 (x3 + 1) σ3)
        else (
          if nI 1 = 0 ∨ nI 1 = 1 then some (some (some (.inl (nI 1))), σ3) else none))))))
  else (
    if nI 0 = 0 ∨ nI 0 = 1 then some (some (some (.inl (nI 0))), σ) else none)) := (EvOf_eq mcode _).trans rfl
set_option maxRecDepth 100000 in
set_option maxHeartbeats 4000000 in
theorem q_X10_isClear (p1 : Int32) (p2 : Int32) (σ : mS) : e_X10_isClear p1 p2 σ =
  if p2 = p1 then (
    if nI 0 = 0 ∨ nI 0 = 1 then some (some (some (.inl (nI 0))), σ) else none)
  else (
    bdI (e_X10_hears p1 p2 σ) (fun v2 σ1 =>
    if v2 = 0 then (
      if nI 0 = 0 ∨ nI 0 = 1 then some (some (some (.inl (nI 0))), σ1) else none)
    else (
      bdI (e_X10_has (σ1.1 (10, 0, 0, 0) 12) p2 σ1) (fun v4 σ3 =>
      if v4 = 0 then (
        if nI 0 = 0 ∨ nI 0 = 1 then some (some (some (.inl (nI 0))), σ3) else none)
      else (
        bdI (e_X10_has (σ3.1 (10, 0, 0, 0) 12) p1 σ3) (fun v6 σ5 =>
        if v6 = 0 then (
          bdI (e_X10_hearsOthers p1 p2 σ5) (fun v8 σ7 =>
          if v8 = 0 then (
            if nI 1 = 0 ∨ nI 1 = 1 then some (some (some (.inl (nI 1))), σ7) else none)
          else (
            if nI 0 = 0 ∨ nI 0 = 1 then some (some (some (.inl (nI 0))), σ7) else none)))
        else (
          if nI 0 = 0 ∨ nI 0 = 1 then some (some (some (.inl (nI 0))), σ5) else none))))))) := (EvOf_eq mcode _).trans rfl
set_option maxRecDepth 100000 in
set_option maxHeartbeats 4000000 in
theorem q_X10_spans (p1 : Int32) (p2 : Int32) (p3 : Int32) (p4 : Int32) (σ : mS) : e_X10_spans p1 p2 p3 p4 σ =
  b_X10_spans_3 p1 p2 p3 p4 (nI 0) σ := (EvOf_eq mcode _).trans rfl
set_option maxRecDepth 100000 in
set_option maxHeartbeats 4000000 in
theorem q_X10_spans_3 (x1 : Int32) (x2 : Int32) (x3 : Int32) (x4 : Int32) (x5 : Int32) (σ : mS) : b_X10_spans_3 x1 x2 x3 x4 x5 σ =
  if nI 0 < 0 ∨ 1432 ≤ (nI 0).toNatClampNeg then none else (
  if x5 < σ.1 (30, 0, 0, 0) ((nI 0).toNatClampNeg) then (
    if x5 = x2 then (
      b_X10_spans_3 x1 x2 x3 x4 (x5 + 1) σ)
    else (
      bdI (e_X10_isClear x5 x1 σ) (fun v2 σ1 =>
      if v2 = 0 then (
        b_X10_spans_3 x1 x2 x3 x4 (x5 + 1) σ1)
      else (
        if (nI 129) + x5 < 0 ∨ 1432 ≤ ((nI 129) + x5).toNatClampNeg then none else (
        if σ1.1 (30, 0, 0, 0) (((nI 129) + x5).toNatClampNeg) < x3 then (
          if (nI 129) + x5 < 0 ∨ 1432 ≤ ((nI 129) + x5).toNatClampNeg then none else (
          let σ3 := st σ1 (30, 0, 0, 0) (((nI 129) + x5).toNatClampNeg) x3;
          if (nI 1420) + x5 < 0 ∨ 1432 ≤ ((nI 1420) + x5).toNatClampNeg then none else (
          let σ4 := st σ3 (30, 0, 0, 0) (((nI 1420) + x5).toNatClampNeg) x4;
          bdI (e_X10_exchangeAt x4 σ4) (fun v6 σ5 =>
          if v6 + (nI 4) < 0 ∨ 1432 ≤ (v6 + (nI 4)).toNatClampNeg then none else (
          if (nI 1426) + x5 < 0 ∨ 1432 ≤ ((nI 1426) + x5).toNatClampNeg then none else (
          let σ7 := st σ5 (30, 0, 0, 0) (((nI 1426) + x5).toNatClampNeg) (σ5.1 (30, 0, 0, 0) ((v6 + (nI 4)).toNatClampNeg));
          b_X10_spans_3 x1 x2 x3 x4 (x5 + 1) σ7))))))
        else (
          b_X10_spans_3 x1 x2 x3 x4 (x5 + 1) σ1))))))
  else (
    some (some none, σ))) := (EvOf_eq mcode _).trans rfl
set_option maxRecDepth 100000 in
set_option maxHeartbeats 4000000 in
theorem q_X10_owes (p1 : Int32) (p2 : Int32) (p3 : Int32) (σ : mS) : e_X10_owes p1 p2 p3 σ =
  if p1 < 0 ∨ 6 ≤ p1.toNatClampNeg then none else (
  let σ1 := st σ (34, 0, 0, 0) p1.toNatClampNeg p2;
  if p1 < 0 ∨ 6 ≤ p1.toNatClampNeg then none else (
  let σ2 := st σ1 (35, 0, 0, 0) p1.toNatClampNeg p3;
  some (some none, σ2))) := (EvOf_eq mcode _).trans rfl
set_option maxRecDepth 100000 in
set_option maxHeartbeats 4000000 in
theorem q_X10_sendsIt (p1 : Int32) (p2 : Int32) (p3 : Int32) (σ : mS) : e_X10_sendsIt p1 p2 p3 σ =
  if (nI 135) + p1 < 0 ∨ 1432 ≤ ((nI 135) + p1).toNatClampNeg then none else (
  if σ.1 (30, 0, 0, 0) (((nI 135) + p1).toNatClampNeg) = p2 then (
    if (nI 141) + p1 < 0 ∨ 1432 ≤ ((nI 141) + p1).toNatClampNeg then none else (
    if σ.1 (30, 0, 0, 0) (((nI 141) + p1).toNatClampNeg) = p3 then (
      bdI (e_X10_isClear p2 p1 σ) (fun v2 σ1 =>
      if v2 = 0 then (
        if nI 0 = 0 ∨ nI 0 = 1 then some (some (some (.inl (nI 0))), σ1) else none)
      else (
        if nI 1 = 0 ∨ nI 1 = 1 then some (some (some (.inl (nI 1))), σ1) else none)))
    else (
      if nI 0 = 0 ∨ nI 0 = 1 then some (some (some (.inl (nI 0))), σ) else none)))
  else (
    if nI 0 = 0 ∨ nI 0 = 1 then some (some (some (.inl (nI 0))), σ) else none)) := (EvOf_eq mcode _).trans rfl
set_option maxRecDepth 100000 in
set_option maxHeartbeats 4000000 in
theorem q_X10_failsBy (p1 : Int32) (p2 : Int32) (σ : mS) : e_X10_failsBy p1 p2 σ =
  bdI (e_X10_exchangeAt p1 σ) (fun v2 σ1 =>
  if v2 + (nI 0) < 0 ∨ 1432 ≤ (v2 + (nI 0)).toNatClampNeg then none else (
  let σ3 := st σ1 (30, 0, 0, 0) ((v2 + (nI 0)).toNatClampNeg) (nI 0);
  if v2 + (nI 15) < 0 ∨ 1432 ≤ (v2 + (nI 15)).toNatClampNeg then none else (
  if 0 < σ3.1 (30, 0, 0, 0) ((v2 + (nI 15)).toNatClampNeg) then (
    b_X10_failsBy_56 p1 p2 v2 ((nI 1342) + ((nI 3) * p1)) (σ3.1 (30, 0, 0, 0) ((v2 + (nI 15)).toNatClampNeg)) σ3)
  else (
    if p2 = 0 then (
      b_X10_failsBy_56 p1 p2 v2 ((nI 1342) + ((nI 3) * p1)) (nI 4) σ3)
    else (
      b_X10_failsBy_56 p1 p2 v2 ((nI 1342) + ((nI 3) * p1)) (nI 7) σ3))))) := (EvOf_eq mcode _).trans rfl
set_option maxRecDepth 100000 in
set_option maxHeartbeats 4000000 in
theorem q_X10_failsBy_56 (x1 : Int32) (x2 : Int32) (x3 : Int32) (t1 : Int32) (t2 : Int32) (σ : mS) : b_X10_failsBy_56 x1 x2 x3 t1 t2 σ =
  if t1 < 0 ∨ 1432 ≤ t1.toNatClampNeg then none else (
  let σ1 := st σ (30, 0, 0, 0) t1.toNatClampNeg t2;
  if nI 1 < 0 ∨ 1432 ≤ (nI 1).toNatClampNeg then none else (
  if ((nI 1342) + ((nI 3) * x1)) + (nI 1) < 0 ∨ 1432 ≤ (((nI 1342) + ((nI 3) * x1)) + (nI 1)).toNatClampNeg then none else (
  let σ2 := st σ1 (30, 0, 0, 0) ((((nI 1342) + ((nI 3) * x1)) + (nI 1)).toNatClampNeg) (σ1.1 (30, 0, 0, 0) ((nI 1).toNatClampNeg));
  if x3 + (nI 1) < 0 ∨ 1432 ≤ (x3 + (nI 1)).toNatClampNeg then none else (
  if ((nI 1342) + ((nI 3) * x1)) + (nI 2) < 0 ∨ 1432 ≤ (((nI 1342) + ((nI 3) * x1)) + (nI 2)).toNatClampNeg then none else (
  let σ3 := st σ2 (30, 0, 0, 0) ((((nI 1342) + ((nI 3) * x1)) + (nI 2)).toNatClampNeg) (σ2.1 (30, 0, 0, 0) ((x3 + (nI 1)).toNatClampNeg));
  bdV (e_X10_had x1 (nI 4) (nI 1) σ3) (fun σ4 =>
  if nI 1338 < 0 ∨ 1432 ≤ (nI 1338).toNatClampNeg then none else (
  if nI 1338 < 0 ∨ 1432 ≤ (nI 1338).toNatClampNeg then none else (
  let σ5 := st σ4 (30, 0, 0, 0) ((nI 1338).toNatClampNeg) ((σ4.1 (30, 0, 0, 0) ((nI 1338).toNatClampNeg)) + (nI 1));
  if x3 + (nI 2) < 0 ∨ 1432 ≤ (x3 + (nI 2)).toNatClampNeg then none else (
  bdV (e_X10_fails x1 (σ5.1 (30, 0, 0, 0) ((x3 + (nI 2)).toNatClampNeg)) σ5) (fun σ6 =>
  if x2 = 0 then (
    some (some none, σ6))
  else (
    if x3 + (nI 1) < 0 ∨ 1432 ≤ (x3 + (nI 1)).toNatClampNeg then none else (
    if (nI 51) + (((nI 6) * x1) + (σ6.1 (30, 0, 0, 0) ((x3 + (nI 1)).toNatClampNeg))) < 0 ∨ 1432 ≤ ((nI 51) + (((nI 6) * x1) + (σ6.1 (30, 0, 0, 0) ((x3 + (nI 1)).toNatClampNeg)))).toNatClampNeg then none else (
    if (nI 51) + (((nI 6) * x1) + (σ6.1 (30, 0, 0, 0) ((x3 + (nI 1)).toNatClampNeg))) < 0 ∨ 1432 ≤ ((nI 51) + (((nI 6) * x1) + (σ6.1 (30, 0, 0, 0) ((x3 + (nI 1)).toNatClampNeg)))).toNatClampNeg then none else (
    let σ7 := st σ6 (30, 0, 0, 0) (((nI 51) + (((nI 6) * x1) + (σ6.1 (30, 0, 0, 0) ((x3 + (nI 1)).toNatClampNeg)))).toNatClampNeg) (if nI 1 < (σ6.1 (30, 0, 0, 0) (((nI 51) + (((nI 6) * x1) + (σ6.1 (30, 0, 0, 0) ((x3 + (nI 1)).toNatClampNeg)))).toNatClampNeg)) - (nI 1) then (σ6.1 (30, 0, 0, 0) (((nI 51) + (((nI 6) * x1) + (σ6.1 (30, 0, 0, 0) ((x3 + (nI 1)).toNatClampNeg)))).toNatClampNeg)) - (nI 1) else nI 1);
    if (nI 87) + (((nI 6) * x1) + (σ6.1 (30, 0, 0, 0) ((x3 + (nI 1)).toNatClampNeg))) < 0 ∨ 1432 ≤ ((nI 87) + (((nI 6) * x1) + (σ6.1 (30, 0, 0, 0) ((x3 + (nI 1)).toNatClampNeg)))).toNatClampNeg then none else (
    let σ8 := st σ7 (30, 0, 0, 0) (((nI 87) + (((nI 6) * x1) + (σ6.1 (30, 0, 0, 0) ((x3 + (nI 1)).toNatClampNeg)))).toNatClampNeg) (nI 0);
    some (some none, σ8)))))))))))))))) := (EvOf_eq mcode _).trans rfl
set_option maxRecDepth 100000 in
set_option maxHeartbeats 4000000 in
theorem q_X10_stepData (p1 : Int32) (σ : mS) : e_X10_stepData p1 σ =
  bdI (e_X10_exchangeAt p1 σ) (fun v2 σ1 =>
  if v2 + (nI 1) < 0 ∨ 1432 ≤ (v2 + (nI 1)).toNatClampNeg then none else (
  bdI (e_X10_isClear (σ1.1 (30, 0, 0, 0) ((v2 + (nI 1)).toNatClampNeg)) p1 σ1) (fun v4 σ3 =>
  if v4 = 0 then (
    if nI 0 = 0 then (
      if v2 + (nI 9) < 0 ∨ 1432 ≤ (v2 + (nI 9)).toNatClampNeg then none else (
      let σ5 := st σ3 (30, 0, 0, 0) ((v2 + (nI 9)).toNatClampNeg) (nI 0);
      if (nI 1396) + p1 < 0 ∨ 1432 ≤ ((nI 1396) + p1).toNatClampNeg then none else (
      if (nI 1396) + p1 < 0 ∨ 1432 ≤ ((nI 1396) + p1).toNatClampNeg then none else (
      let σ6 := st σ5 (30, 0, 0, 0) (((nI 1396) + p1).toNatClampNeg) ((σ5.1 (30, 0, 0, 0) (((nI 1396) + p1).toNatClampNeg)) + (nI 1));
      b_X10_stepData_85 p1 v2 (σ1.1 (30, 0, 0, 0) ((v2 + (nI 1)).toNatClampNeg)) (nI 0) σ6))))
    else (
      if (nI 1396) + p1 < 0 ∨ 1432 ≤ ((nI 1396) + p1).toNatClampNeg then none else (
      if (nI 1396) + p1 < 0 ∨ 1432 ≤ ((nI 1396) + p1).toNatClampNeg then none else (
      let σ7 := st σ3 (30, 0, 0, 0) (((nI 1396) + p1).toNatClampNeg) ((σ3.1 (30, 0, 0, 0) (((nI 1396) + p1).toNatClampNeg)) + (nI 1));
      b_X10_stepData_85 p1 v2 (σ1.1 (30, 0, 0, 0) ((v2 + (nI 1)).toNatClampNeg)) (nI 0) σ7))))
  else (
    bdI (e_X10_quality p1 (σ1.1 (30, 0, 0, 0) ((v2 + (nI 1)).toNatClampNeg)) σ3) (fun v9 σ8 =>
    if ((nI 51) + ((nI 6) * p1)) + (σ1.1 (30, 0, 0, 0) ((v2 + (nI 1)).toNatClampNeg)) < 0 ∨ 1432 ≤ (((nI 51) + ((nI 6) * p1)) + (σ1.1 (30, 0, 0, 0) ((v2 + (nI 1)).toNatClampNeg))).toNatClampNeg then none else (
    if v9 < σ8.1 (30, 0, 0, 0) ((((nI 51) + ((nI 6) * p1)) + (σ1.1 (30, 0, 0, 0) ((v2 + (nI 1)).toNatClampNeg))).toNatClampNeg) then (
      if nI 0 = 0 then (
        if v2 + (nI 9) < 0 ∨ 1432 ≤ (v2 + (nI 9)).toNatClampNeg then none else (
        let σ10 := st σ8 (30, 0, 0, 0) ((v2 + (nI 9)).toNatClampNeg) (nI 0);
        if (nI 1396) + p1 < 0 ∨ 1432 ≤ ((nI 1396) + p1).toNatClampNeg then none else (
        if (nI 1396) + p1 < 0 ∨ 1432 ≤ ((nI 1396) + p1).toNatClampNeg then none else (
        let σ11 := st σ10 (30, 0, 0, 0) (((nI 1396) + p1).toNatClampNeg) ((σ10.1 (30, 0, 0, 0) (((nI 1396) + p1).toNatClampNeg)) + (nI 1));
        b_X10_stepData_85 p1 v2 (σ1.1 (30, 0, 0, 0) ((v2 + (nI 1)).toNatClampNeg)) (nI 0) σ11))))
      else (
        if (nI 1396) + p1 < 0 ∨ 1432 ≤ ((nI 1396) + p1).toNatClampNeg then none else (
        if (nI 1396) + p1 < 0 ∨ 1432 ≤ ((nI 1396) + p1).toNatClampNeg then none else (
        let σ12 := st σ8 (30, 0, 0, 0) (((nI 1396) + p1).toNatClampNeg) ((σ8.1 (30, 0, 0, 0) (((nI 1396) + p1).toNatClampNeg)) + (nI 1));
        b_X10_stepData_85 p1 v2 (σ1.1 (30, 0, 0, 0) ((v2 + (nI 1)).toNatClampNeg)) (nI 0) σ12))))
    else (
      if nI 1 = 0 then (
        if v2 + (nI 9) < 0 ∨ 1432 ≤ (v2 + (nI 9)).toNatClampNeg then none else (
        let σ13 := st σ8 (30, 0, 0, 0) ((v2 + (nI 9)).toNatClampNeg) (nI 0);
        if (nI 1396) + p1 < 0 ∨ 1432 ≤ ((nI 1396) + p1).toNatClampNeg then none else (
        if (nI 1396) + p1 < 0 ∨ 1432 ≤ ((nI 1396) + p1).toNatClampNeg then none else (
        let σ14 := st σ13 (30, 0, 0, 0) (((nI 1396) + p1).toNatClampNeg) ((σ13.1 (30, 0, 0, 0) (((nI 1396) + p1).toNatClampNeg)) + (nI 1));
        b_X10_stepData_85 p1 v2 (σ1.1 (30, 0, 0, 0) ((v2 + (nI 1)).toNatClampNeg)) (nI 0) σ14))))
      else (
        if (nI 1396) + p1 < 0 ∨ 1432 ≤ ((nI 1396) + p1).toNatClampNeg then none else (
        if (nI 1396) + p1 < 0 ∨ 1432 ≤ ((nI 1396) + p1).toNatClampNeg then none else (
        let σ15 := st σ8 (30, 0, 0, 0) (((nI 1396) + p1).toNatClampNeg) ((σ8.1 (30, 0, 0, 0) (((nI 1396) + p1).toNatClampNeg)) + (nI 1));
        b_X10_stepData_85 p1 v2 (σ1.1 (30, 0, 0, 0) ((v2 + (nI 1)).toNatClampNeg)) (nI 0) σ15)))))))))) := (EvOf_eq mcode _).trans rfl
set_option maxRecDepth 100000 in
set_option maxHeartbeats 4000000 in
theorem q_X10_stepData_85 (x1 : Int32) (x2 : Int32) (x3 : Int32) (x5 : Int32) (σ : mS) : b_X10_stepData_85 x1 x2 x3 x5 σ =
  if nI 0 < 0 ∨ 1432 ≤ (nI 0).toNatClampNeg then none else (
  if x5 < σ.1 (30, 0, 0, 0) ((nI 0).toNatClampNeg) then (
    bdI (e_X10_isClear x3 x1 σ) (fun v2 σ1 =>
    if v2 = 0 then (
      if x5 = x1 then (
        b_X10_stepData_85 x1 x2 x3 (x5 + 1) σ1)
      else (
        bdI (e_X10_hears x3 x5 σ1) (fun v4 σ3 =>
        if v4 = 0 then (
          b_X10_stepData_85 x1 x2 x3 (x5 + 1) σ3)
        else (
          bdI (e_X10_has (σ3.1 (10, 0, 0, 0) 12) x5 σ3) (fun v6 σ5 =>
          if v6 = 0 then (
            b_X10_stepData_85 x1 x2 x3 (x5 + 1) σ5)
          else (
            if ((nI 1360) + ((nI 6) * x1)) + x5 < 0 ∨ 1432 ≤ (((nI 1360) + ((nI 6) * x1)) + x5).toNatClampNeg then none else (
            if ((nI 1360) + ((nI 6) * x1)) + x5 < 0 ∨ 1432 ≤ (((nI 1360) + ((nI 6) * x1)) + x5).toNatClampNeg then none else (
            let σ7 := st σ5 (30, 0, 0, 0) ((((nI 1360) + ((nI 6) * x1)) + x5).toNatClampNeg) ((σ5.1 (30, 0, 0, 0) ((((nI 1360) + ((nI 6) * x1)) + x5).toNatClampNeg)) + (nI 1));
            b_X10_stepData_85 x1 x2 x3 (x5 + 1) σ7))))))))
    else (
      b_X10_stepData_159 x1 x2 x3 σ1)))
  else (
    b_X10_stepData_159 x1 x2 x3 σ)) := (EvOf_eq mcode _).trans rfl
set_option maxRecDepth 100000 in
set_option maxHeartbeats 4000000 in
theorem q_X10_stepData_159 (x1 : Int32) (x2 : Int32) (x3 : Int32) (σ : mS) : b_X10_stepData_159 x1 x2 x3 σ =
  if x2 + (nI 8) < 0 ∨ 1432 ≤ (x2 + (nI 8)).toNatClampNeg then none else (
  if x2 + (nI 8) < 0 ∨ 1432 ≤ (x2 + (nI 8)).toNatClampNeg then none else (
  let σ1 := st σ (30, 0, 0, 0) ((x2 + (nI 8)).toNatClampNeg) ((σ.1 (30, 0, 0, 0) ((x2 + (nI 8)).toNatClampNeg)) - (nI 1));
  if x2 + (nI 5) < 0 ∨ 1432 ≤ (x2 + (nI 5)).toNatClampNeg then none else (
  if x2 + (nI 5) < 0 ∨ 1432 ≤ (x2 + (nI 5)).toNatClampNeg then none else (
  let σ2 := st σ1 (30, 0, 0, 0) ((x2 + (nI 5)).toNatClampNeg) ((σ1.1 (30, 0, 0, 0) ((x2 + (nI 5)).toNatClampNeg)) - (nI 1));
  if x2 + (nI 8) < 0 ∨ 1432 ≤ (x2 + (nI 8)).toNatClampNeg then none else (
  if σ2.1 (30, 0, 0, 0) ((x2 + (nI 8)).toNatClampNeg) = 0 then (
    if x2 + (nI 9) < 0 ∨ 1432 ≤ (x2 + (nI 9)).toNatClampNeg then none else (
    if σ2.1 (30, 0, 0, 0) ((x2 + (nI 9)).toNatClampNeg) = nI 1 then (
      if x2 + (nI 6) < 0 ∨ 1432 ≤ (x2 + (nI 6)).toNatClampNeg then none else (
      if x2 + (nI 7) < 0 ∨ 1432 ≤ (x2 + (nI 7)).toNatClampNeg then none else (
      if x2 + (nI 6) < 0 ∨ 1432 ≤ (x2 + (nI 6)).toNatClampNeg then none else (
      let σ3 := st σ2 (30, 0, 0, 0) ((x2 + (nI 6)).toNatClampNeg) ((σ2.1 (30, 0, 0, 0) ((x2 + (nI 6)).toNatClampNeg)) ||| ((nI 1) <<< ((σ2.1 (30, 0, 0, 0) ((x2 + (nI 7)).toNatClampNeg)) &&& 31)));
      if x2 + (nI 7) < 0 ∨ 1432 ≤ (x2 + (nI 7)).toNatClampNeg then none else (
      if x2 + (nI 7) < 0 ∨ 1432 ≤ (x2 + (nI 7)).toNatClampNeg then none else (
      let σ4 := st σ3 (30, 0, 0, 0) ((x2 + (nI 7)).toNatClampNeg) ((σ3.1 (30, 0, 0, 0) ((x2 + (nI 7)).toNatClampNeg)) + (nI 1));
      if x2 + (nI 9) < 0 ∨ 1432 ≤ (x2 + (nI 9)).toNatClampNeg then none else (
      let σ5 := st σ4 (30, 0, 0, 0) ((x2 + (nI 9)).toNatClampNeg) (nI 1);
      if x2 + (nI 7) < 0 ∨ 1432 ≤ (x2 + (nI 7)).toNatClampNeg then none else (
      if x2 + (nI 3) < 0 ∨ 1432 ≤ (x2 + (nI 3)).toNatClampNeg then none else (
      if σ5.1 (30, 0, 0, 0) ((x2 + (nI 7)).toNatClampNeg) < σ5.1 (30, 0, 0, 0) ((x2 + (nI 3)).toNatClampNeg) then (
        if x2 + (nI 7) < 0 ∨ 1432 ≤ (x2 + (nI 7)).toNatClampNeg then none else (
        if (x2 + (nI 11)) + (σ5.1 (30, 0, 0, 0) ((x2 + (nI 7)).toNatClampNeg)) < 0 ∨ 1432 ≤ ((x2 + (nI 11)) + (σ5.1 (30, 0, 0, 0) ((x2 + (nI 7)).toNatClampNeg))).toNatClampNeg then none else (
        if x2 + (nI 8) < 0 ∨ 1432 ≤ (x2 + (nI 8)).toNatClampNeg then none else (
        let σ6 := st σ5 (30, 0, 0, 0) ((x2 + (nI 8)).toNatClampNeg) (σ5.1 (30, 0, 0, 0) (((x2 + (nI 11)) + (σ5.1 (30, 0, 0, 0) ((x2 + (nI 7)).toNatClampNeg))).toNatClampNeg));
        b_X10_stepData_307 x1 x2 x3 σ6))))
      else (
        if x2 + (nI 8) < 0 ∨ 1432 ≤ (x2 + (nI 8)).toNatClampNeg then none else (
        let σ7 := st σ5 (30, 0, 0, 0) ((x2 + (nI 8)).toNatClampNeg) (nI 0);
        b_X10_stepData_307 x1 x2 x3 σ7)))))))))))
    else (
      if x2 + (nI 7) < 0 ∨ 1432 ≤ (x2 + (nI 7)).toNatClampNeg then none else (
      if x2 + (nI 7) < 0 ∨ 1432 ≤ (x2 + (nI 7)).toNatClampNeg then none else (
      let σ8 := st σ2 (30, 0, 0, 0) ((x2 + (nI 7)).toNatClampNeg) ((σ2.1 (30, 0, 0, 0) ((x2 + (nI 7)).toNatClampNeg)) + (nI 1));
      if x2 + (nI 9) < 0 ∨ 1432 ≤ (x2 + (nI 9)).toNatClampNeg then none else (
      let σ9 := st σ8 (30, 0, 0, 0) ((x2 + (nI 9)).toNatClampNeg) (nI 1);
      if x2 + (nI 7) < 0 ∨ 1432 ≤ (x2 + (nI 7)).toNatClampNeg then none else (
      if x2 + (nI 3) < 0 ∨ 1432 ≤ (x2 + (nI 3)).toNatClampNeg then none else (
      if σ9.1 (30, 0, 0, 0) ((x2 + (nI 7)).toNatClampNeg) < σ9.1 (30, 0, 0, 0) ((x2 + (nI 3)).toNatClampNeg) then (
        if x2 + (nI 7) < 0 ∨ 1432 ≤ (x2 + (nI 7)).toNatClampNeg then none else (
        if (x2 + (nI 11)) + (σ9.1 (30, 0, 0, 0) ((x2 + (nI 7)).toNatClampNeg)) < 0 ∨ 1432 ≤ ((x2 + (nI 11)) + (σ9.1 (30, 0, 0, 0) ((x2 + (nI 7)).toNatClampNeg))).toNatClampNeg then none else (
        if x2 + (nI 8) < 0 ∨ 1432 ≤ (x2 + (nI 8)).toNatClampNeg then none else (
        let σ10 := st σ9 (30, 0, 0, 0) ((x2 + (nI 8)).toNatClampNeg) (σ9.1 (30, 0, 0, 0) (((x2 + (nI 11)) + (σ9.1 (30, 0, 0, 0) ((x2 + (nI 7)).toNatClampNeg))).toNatClampNeg));
        b_X10_stepData_307 x1 x2 x3 σ10))))
      else (
        if x2 + (nI 8) < 0 ∨ 1432 ≤ (x2 + (nI 8)).toNatClampNeg then none else (
        let σ11 := st σ9 (30, 0, 0, 0) ((x2 + (nI 8)).toNatClampNeg) (nI 0);
        b_X10_stepData_307 x1 x2 x3 σ11))))))))))
  else (
    b_X10_stepData_307 x1 x2 x3 σ2)))))) := (EvOf_eq mcode _).trans rfl
set_option maxRecDepth 100000 in
set_option maxHeartbeats 4000000 in
theorem q_X10_stepData_307 (x1 : Int32) (x2 : Int32) (x3 : Int32) (σ : mS) : b_X10_stepData_307 x1 x2 x3 σ =
  if x2 + (nI 5) < 0 ∨ 1432 ≤ (x2 + (nI 5)).toNatClampNeg then none else (
  if 0 < σ.1 (30, 0, 0, 0) ((x2 + (nI 5)).toNatClampNeg) then (
    some (some none, σ))
  else (
    if nI 1 < 0 ∨ 1432 ≤ (nI 1).toNatClampNeg then none else (
    bdV (e_X10_spans x1 x3 ((σ.1 (30, 0, 0, 0) ((nI 1).toNatClampNeg)) + (nI 2)) x1 σ) (fun σ1 =>
    if x2 + (nI 6) < 0 ∨ 1432 ≤ (x2 + (nI 6)).toNatClampNeg then none else (
    if σ1.1 (30, 0, 0, 0) ((x2 + (nI 6)).toNatClampNeg) = 0 then (
      if x2 + (nI 15) < 0 ∨ 1432 ≤ (x2 + (nI 15)).toNatClampNeg then none else (
      let σ2 := st σ1 (30, 0, 0, 0) ((x2 + (nI 15)).toNatClampNeg) (nI 5);
      if x2 + (nI 15) < 0 ∨ 1432 ≤ (x2 + (nI 15)).toNatClampNeg then none else (
      if σ2.1 (30, 0, 0, 0) ((x2 + (nI 15)).toNatClampNeg) = 0 then (
        bdV (e_X10_owes x3 x1 (nI 2) σ2) (fun σ3 =>
        if x2 + (nI 4) < 0 ∨ 1432 ≤ (x2 + (nI 4)).toNatClampNeg then none else (
        let σ4 := st σ3 (30, 0, 0, 0) ((x2 + (nI 4)).toNatClampNeg) (nI 3);
        some (some none, σ4))))
      else (
        if x2 + (nI 4) < 0 ∨ 1432 ≤ (x2 + (nI 4)).toNatClampNeg then none else (
        let σ5 := st σ2 (30, 0, 0, 0) ((x2 + (nI 4)).toNatClampNeg) (nI 3);
        some (some none, σ5))))))
    else (
      bdI (e_X10_isFree x3 σ1) (fun v7 σ6 =>
      if v7 = 0 then (
        if x2 + (nI 15) < 0 ∨ 1432 ≤ (x2 + (nI 15)).toNatClampNeg then none else (
        let σ8 := st σ6 (30, 0, 0, 0) ((x2 + (nI 15)).toNatClampNeg) (nI 6);
        if x2 + (nI 15) < 0 ∨ 1432 ≤ (x2 + (nI 15)).toNatClampNeg then none else (
        if σ8.1 (30, 0, 0, 0) ((x2 + (nI 15)).toNatClampNeg) = 0 then (
          bdV (e_X10_owes x3 x1 (nI 2) σ8) (fun σ9 =>
          if x2 + (nI 4) < 0 ∨ 1432 ≤ (x2 + (nI 4)).toNatClampNeg then none else (
          let σ10 := st σ9 (30, 0, 0, 0) ((x2 + (nI 4)).toNatClampNeg) (nI 3);
          some (some none, σ10))))
        else (
          if x2 + (nI 4) < 0 ∨ 1432 ≤ (x2 + (nI 4)).toNatClampNeg then none else (
          let σ11 := st σ8 (30, 0, 0, 0) ((x2 + (nI 4)).toNatClampNeg) (nI 3);
          some (some none, σ11))))))
      else (
        if x2 + (nI 15) < 0 ∨ 1432 ≤ (x2 + (nI 15)).toNatClampNeg then none else (
        let σ12 := st σ6 (30, 0, 0, 0) ((x2 + (nI 15)).toNatClampNeg) (nI 0);
        if x2 + (nI 15) < 0 ∨ 1432 ≤ (x2 + (nI 15)).toNatClampNeg then none else (
        if σ12.1 (30, 0, 0, 0) ((x2 + (nI 15)).toNatClampNeg) = 0 then (
          bdV (e_X10_owes x3 x1 (nI 2) σ12) (fun σ13 =>
          if x2 + (nI 4) < 0 ∨ 1432 ≤ (x2 + (nI 4)).toNatClampNeg then none else (
          let σ14 := st σ13 (30, 0, 0, 0) ((x2 + (nI 4)).toNatClampNeg) (nI 3);
          some (some none, σ14))))
        else (
          if x2 + (nI 4) < 0 ∨ 1432 ≤ (x2 + (nI 4)).toNatClampNeg then none else (
          let σ15 := st σ12 (30, 0, 0, 0) ((x2 + (nI 4)).toNatClampNeg) (nI 3);
          some (some none, σ15))))))))))))) := (EvOf_eq mcode _).trans rfl
end
section
/-! What each block comes to (by program out of the mini-code) -/
set_option maxRecDepth 100000 in
set_option maxHeartbeats 4000000 in
theorem q_X10_delivers (p1 : Int32) (σ : mS) : e_X10_delivers p1 σ =
  bdI (e_X10_exchangeAt p1 σ) (fun v2 σ1 =>
  if v2 + (nI 2) < 0 ∨ 1432 ≤ (v2 + (nI 2)).toNatClampNeg then none else (
  b_X10_delivers_20 p1 v2 (σ1.1 (30, 0, 0, 0) ((v2 + (nI 2)).toNatClampNeg)) (nI 0) (nI 0) σ1)) := (EvOf_eq mcode _).trans rfl
set_option maxRecDepth 100000 in
set_option maxHeartbeats 4000000 in
theorem q_X10_delivers_20 (x1 : Int32) (x2 : Int32) (x3 : Int32) (x4 : Int32) (x5 : Int32) (σ : mS) : b_X10_delivers_20 x1 x2 x3 x4 x5 σ =
  if x2 + (nI 3) < 0 ∨ 1432 ≤ (x2 + (nI 3)).toNatClampNeg then none else (
  if x5 < σ.1 (30, 0, 0, 0) ((x2 + (nI 3)).toNatClampNeg) then (
    bdI (e_X10_frameAt x1 x3 x4 σ) (fun v2 σ1 =>
    if x2 + (nI 6) < 0 ∨ 1432 ≤ (x2 + (nI 6)).toNatClampNeg then none else (
    bdI (e_X10_has (σ1.1 (30, 0, 0, 0) ((x2 + (nI 6)).toNatClampNeg)) x5 σ1) (fun v4 σ3 =>
    if v4 = 0 then (
      if v2 + (nI 2) < 0 ∨ 1432 ≤ (v2 + (nI 2)).toNatClampNeg then none else (
      if v2 + (nI 2) < 0 ∨ 1432 ≤ (v2 + (nI 2)).toNatClampNeg then none else (
      let σ5 := st σ3 (30, 0, 0, 0) ((v2 + (nI 2)).toNatClampNeg) ((σ3.1 (30, 0, 0, 0) ((v2 + (nI 2)).toNatClampNeg)) + (nI 1));
      if v2 + (nI 2) < 0 ∨ 1432 ≤ (v2 + (nI 2)).toNatClampNeg then none else (
      if nI 4 < 0 ∨ 1432 ≤ (nI 4).toNatClampNeg then none else (
      if σ5.1 (30, 0, 0, 0) ((v2 + (nI 2)).toNatClampNeg) < σ5.1 (30, 0, 0, 0) ((nI 4).toNatClampNeg) then (
        b_X10_delivers_20 x1 x2 x3 (x4 + 1) (x5 + 1) σ5)
      else (
        bdV (e_X10_isLost x1 x3 x4 σ5) (fun σ6 =>
        b_X10_delivers_20 x1 x2 x3 x4 (x5 + 1) σ6)))))))
    else (
      bdV (e_X10_had x1 (nI 0) (nI 1) σ3) (fun σ7 =>
      if v2 + (nI 1) < 0 ∨ 1432 ≤ (v2 + (nI 1)).toNatClampNeg then none else (
      bdV (e_X10_had x1 (nI 1) (σ7.1 (30, 0, 0, 0) ((v2 + (nI 1)).toNatClampNeg)) σ7) (fun σ8 =>
      if nI 1336 < 0 ∨ 1432 ≤ (nI 1336).toNatClampNeg then none else (
      if nI 1336 < 0 ∨ 1432 ≤ (nI 1336).toNatClampNeg then none else (
      let σ9 := st σ8 (30, 0, 0, 0) ((nI 1336).toNatClampNeg) ((σ8.1 (30, 0, 0, 0) ((nI 1336).toNatClampNeg)) + (nI 1));
      if v2 + (nI 4) < 0 ∨ 1432 ≤ (v2 + (nI 4)).toNatClampNeg then none else (
      if σ9.1 (30, 0, 0, 0) ((v2 + (nI 4)).toNatClampNeg) = nI 1 then (
        if nI 1340 < 0 ∨ 1432 ≤ (nI 1340).toNatClampNeg then none else (
        let σ10 := st σ9 (30, 0, 0, 0) ((nI 1340).toNatClampNeg) (nI 1);
        b_X10_delivers_115 x1 x2 x3 x4 x5 v2 σ10))
      else (
        b_X10_delivers_115 x1 x2 x3 x4 x5 v2 σ9))))))))))))
  else (
    if x2 + (nI 0) < 0 ∨ 1432 ≤ (x2 + (nI 0)).toNatClampNeg then none else (
    let σ11 := st σ (30, 0, 0, 0) ((x2 + (nI 0)).toNatClampNeg) (nI 0);
    bdI (e_X10_at x1 x3 σ11) (fun v13 σ12 =>
    if (nI 9) + x3 < 0 ∨ 1432 ≤ ((nI 9) + x3).toNatClampNeg then none else (
    if (nI 1131) + v13 < 0 ∨ 1432 ≤ ((nI 1131) + v13).toNatClampNeg then none else (
    let σ14 := st σ12 (30, 0, 0, 0) (((nI 1131) + v13).toNatClampNeg) (σ12.1 (30, 0, 0, 0) (((nI 9) + x3).toNatClampNeg));
    bdV (e_X10_drawsCount x1 x3 σ14) (fun σ15 =>
    if x2 + (nI 1) < 0 ∨ 1432 ≤ (x2 + (nI 1)).toNatClampNeg then none else (
    if (nI 87) + (((nI 6) * x1) + (σ15.1 (30, 0, 0, 0) ((x2 + (nI 1)).toNatClampNeg))) < 0 ∨ 1432 ≤ ((nI 87) + (((nI 6) * x1) + (σ15.1 (30, 0, 0, 0) ((x2 + (nI 1)).toNatClampNeg)))).toNatClampNeg then none else (
    if (nI 87) + (((nI 6) * x1) + (σ15.1 (30, 0, 0, 0) ((x2 + (nI 1)).toNatClampNeg))) < 0 ∨ 1432 ≤ ((nI 87) + (((nI 6) * x1) + (σ15.1 (30, 0, 0, 0) ((x2 + (nI 1)).toNatClampNeg)))).toNatClampNeg then none else (
    let σ16 := st σ15 (30, 0, 0, 0) (((nI 87) + (((nI 6) * x1) + (σ15.1 (30, 0, 0, 0) ((x2 + (nI 1)).toNatClampNeg)))).toNatClampNeg) ((σ15.1 (30, 0, 0, 0) (((nI 87) + (((nI 6) * x1) + (σ15.1 (30, 0, 0, 0) ((x2 + (nI 1)).toNatClampNeg)))).toNatClampNeg)) + (nI 1));
    if (nI 87) + (((nI 6) * x1) + (σ15.1 (30, 0, 0, 0) ((x2 + (nI 1)).toNatClampNeg))) < 0 ∨ 1432 ≤ ((nI 87) + (((nI 6) * x1) + (σ15.1 (30, 0, 0, 0) ((x2 + (nI 1)).toNatClampNeg)))).toNatClampNeg then none else (
    if σ16.1 (30, 0, 0, 0) (((nI 87) + (((nI 6) * x1) + (σ15.1 (30, 0, 0, 0) ((x2 + (nI 1)).toNatClampNeg)))).toNatClampNeg) < nI 3 then (
      some (some none, σ16))
    else (
      if (nI 51) + (((nI 6) * x1) + (σ15.1 (30, 0, 0, 0) ((x2 + (nI 1)).toNatClampNeg))) < 0 ∨ 1432 ≤ ((nI 51) + (((nI 6) * x1) + (σ15.1 (30, 0, 0, 0) ((x2 + (nI 1)).toNatClampNeg)))).toNatClampNeg then none else (
      if (nI 51) + (((nI 6) * x1) + (σ15.1 (30, 0, 0, 0) ((x2 + (nI 1)).toNatClampNeg))) < 0 ∨ 1432 ≤ ((nI 51) + (((nI 6) * x1) + (σ15.1 (30, 0, 0, 0) ((x2 + (nI 1)).toNatClampNeg)))).toNatClampNeg then none else (
      let σ17 := st σ16 (30, 0, 0, 0) (((nI 51) + (((nI 6) * x1) + (σ15.1 (30, 0, 0, 0) ((x2 + (nI 1)).toNatClampNeg)))).toNatClampNeg) (if (σ16.1 (30, 0, 0, 0) (((nI 51) + (((nI 6) * x1) + (σ15.1 (30, 0, 0, 0) ((x2 + (nI 1)).toNatClampNeg)))).toNatClampNeg)) + (nI 1) < nI 3 then (σ16.1 (30, 0, 0, 0) (((nI 51) + (((nI 6) * x1) + (σ15.1 (30, 0, 0, 0) ((x2 + (nI 1)).toNatClampNeg)))).toNatClampNeg)) + (nI 1) else nI 3);
      if (nI 87) + (((nI 6) * x1) + (σ15.1 (30, 0, 0, 0) ((x2 + (nI 1)).toNatClampNeg))) < 0 ∨ 1432 ≤ ((nI 87) + (((nI 6) * x1) + (σ15.1 (30, 0, 0, 0) ((x2 + (nI 1)).toNatClampNeg)))).toNatClampNeg then none else (
      let σ18 := st σ17 (30, 0, 0, 0) (((nI 87) + (((nI 6) * x1) + (σ15.1 (30, 0, 0, 0) ((x2 + (nI 1)).toNatClampNeg)))).toNatClampNeg) (nI 0);
      some (some none, σ18)))))))))))))))) := (EvOf_eq mcode _).trans rfl
set_option maxRecDepth 100000 in
set_option maxHeartbeats 4000000 in
theorem q_X10_delivers_115 (x1 : Int32) (x2 : Int32) (x3 : Int32) (x4 : Int32) (x5 : Int32) (x6 : Int32) (σ : mS) : b_X10_delivers_115 x1 x2 x3 x4 x5 x6 σ =
  if nI 1 < 0 ∨ 1432 ≤ (nI 1).toNatClampNeg then none else (
  if x6 + (nI 3) < 0 ∨ 1432 ≤ (x6 + (nI 3)).toNatClampNeg then none else (
  bdV (e_X10_had x1 (nI 7) (((σ.1 (30, 0, 0, 0) ((nI 1).toNatClampNeg)) - (σ.1 (30, 0, 0, 0) ((x6 + (nI 3)).toNatClampNeg))) + (nI 1)) σ) (fun σ1 =>
  if ((nI 1275) + ((nI 9) * x1)) + (nI 8) < 0 ∨ 1432 ≤ (((nI 1275) + ((nI 9) * x1)) + (nI 8)).toNatClampNeg then none else (
  if ((nI 1275) + ((nI 9) * x1)) + (nI 8) < 0 ∨ 1432 ≤ (((nI 1275) + ((nI 9) * x1)) + (nI 8)).toNatClampNeg then none else (
  let σ2 := st σ1 (30, 0, 0, 0) ((((nI 1275) + ((nI 9) * x1)) + (nI 8)).toNatClampNeg) (if σ1.1 (30, 0, 0, 0) ((((nI 1275) + ((nI 9) * x1)) + (nI 8)).toNatClampNeg) < ((σ.1 (30, 0, 0, 0) ((nI 1).toNatClampNeg)) - (σ.1 (30, 0, 0, 0) ((x6 + (nI 3)).toNatClampNeg))) + (nI 1) then ((σ.1 (30, 0, 0, 0) ((nI 1).toNatClampNeg)) - (σ.1 (30, 0, 0, 0) ((x6 + (nI 3)).toNatClampNeg))) + (nI 1) else σ1.1 (30, 0, 0, 0) ((((nI 1275) + ((nI 9) * x1)) + (nI 8)).toNatClampNeg));
  bdV (e_X10_leaves x1 x3 x4 σ2) (fun σ3 =>
  b_X10_delivers_20 x1 x2 x3 x4 (x5 + 1) σ3)))))) := (EvOf_eq mcode _).trans rfl
set_option maxRecDepth 100000 in
set_option maxHeartbeats 4000000 in
theorem q_X10_stepSender (p1 : Int32) (σ : mS) : e_X10_stepSender p1 σ =
  bdI (e_X10_exchangeAt p1 σ) (fun v2 σ1 =>
  if v2 + (nI 1) < 0 ∨ 1432 ≤ (v2 + (nI 1)).toNatClampNeg then none else (
  if v2 + (nI 4) < 0 ∨ 1432 ≤ (v2 + (nI 4)).toNatClampNeg then none else (
  if σ1.1 (30, 0, 0, 0) ((v2 + (nI 4)).toNatClampNeg) = nI 0 then (
    bdI (e_X10_isClear (σ1.1 (30, 0, 0, 0) ((v2 + (nI 1)).toNatClampNeg)) p1 σ1) (fun v4 σ3 =>
    if v4 = 0 then (
      b_X10_stepSender_105 p1 v2 (σ1.1 (30, 0, 0, 0) ((v2 + (nI 1)).toNatClampNeg)) (v2 + (nI 15)) (nI 1) σ3)
    else (
      bdI (e_X10_isFree (σ1.1 (30, 0, 0, 0) ((v2 + (nI 1)).toNatClampNeg)) σ3) (fun v6 σ5 =>
      if v6 = 0 then (
        b_X10_stepSender_105 p1 v2 (σ1.1 (30, 0, 0, 0) ((v2 + (nI 1)).toNatClampNeg)) (v2 + (nI 15)) (nI 2) σ5)
      else (
        if nI 1 < 0 ∨ 1432 ≤ (nI 1).toNatClampNeg then none else (
        if (nI 129) + (σ1.1 (30, 0, 0, 0) ((v2 + (nI 1)).toNatClampNeg)) < 0 ∨ 1432 ≤ ((nI 129) + (σ1.1 (30, 0, 0, 0) ((v2 + (nI 1)).toNatClampNeg))).toNatClampNeg then none else (
        if σ5.1 (30, 0, 0, 0) ((nI 1).toNatClampNeg) < σ5.1 (30, 0, 0, 0) (((nI 129) + (σ1.1 (30, 0, 0, 0) ((v2 + (nI 1)).toNatClampNeg))).toNatClampNeg) then (
          b_X10_stepSender_105 p1 v2 (σ1.1 (30, 0, 0, 0) ((v2 + (nI 1)).toNatClampNeg)) (v2 + (nI 15)) (nI 3) σ5)
        else (
          b_X10_stepSender_105 p1 v2 (σ1.1 (30, 0, 0, 0) ((v2 + (nI 1)).toNatClampNeg)) (v2 + (nI 15)) (nI 0) σ5))))))))
  else if σ1.1 (30, 0, 0, 0) ((v2 + (nI 4)).toNatClampNeg) = nI 1 then (
    bdI (e_X10_sendsIt (σ1.1 (30, 0, 0, 0) ((v2 + (nI 1)).toNatClampNeg)) p1 (nI 1) σ1) (fun v8 σ7 =>
    if v8 = 0 then (
      bdV (e_X10_failsBy p1 (nI 0) σ7) (fun σ9 =>
      some (some none, σ9)))
    else (
      if v2 + (nI 10) < 0 ∨ 1432 ≤ (v2 + (nI 10)).toNatClampNeg then none else (
      bdV (e_X10_spans (σ1.1 (30, 0, 0, 0) ((v2 + (nI 1)).toNatClampNeg)) p1 (σ7.1 (30, 0, 0, 0) ((v2 + (nI 10)).toNatClampNeg)) p1 σ7) (fun σ10 =>
      if v2 + (nI 4) < 0 ∨ 1432 ≤ (v2 + (nI 4)).toNatClampNeg then none else (
      let σ11 := st σ10 (30, 0, 0, 0) ((v2 + (nI 4)).toNatClampNeg) (nI 2);
      some (some none, σ11)))))))
  else if σ1.1 (30, 0, 0, 0) ((v2 + (nI 4)).toNatClampNeg) = nI 2 then (
    bdV (e_X10_stepData p1 σ1) (fun σ12 =>
    some (some none, σ12)))
  else (bdI (e_X10_sendsIt (σ1.1 (30, 0, 0, 0) ((v2 + (nI 1)).toNatClampNeg)) p1 (nI 2) σ1) (fun v14 σ13 =>
    if v14 = 0 then (
      bdV (e_X10_failsBy p1 (nI 1) σ13) (fun σ15 =>
      some (some none, σ15)))
    else (
      bdV (e_X10_delivers p1 σ13) (fun σ16 =>
      some (some none, σ16)))))))) := (EvOf_eq mcode _).trans rfl
set_option maxRecDepth 100000 in
set_option maxHeartbeats 4000000 in
theorem q_X10_stepSender_105 (x1 : Int32) (x2 : Int32) (x3 : Int32) (t1 : Int32) (t2 : Int32) (σ : mS) : b_X10_stepSender_105 x1 x2 x3 t1 t2 σ =
  if t1 < 0 ∨ 1432 ≤ t1.toNatClampNeg then none else (
  let σ1 := st σ (30, 0, 0, 0) t1.toNatClampNeg t2;
  if x2 + (nI 15) < 0 ∨ 1432 ≤ (x2 + (nI 15)).toNatClampNeg then none else (
  if σ1.1 (30, 0, 0, 0) ((x2 + (nI 15)).toNatClampNeg) = 0 then (
    bdV (e_X10_owes x3 x1 (nI 1) σ1) (fun σ2 =>
    if x2 + (nI 10) < 0 ∨ 1432 ≤ (x2 + (nI 10)).toNatClampNeg then none else (
    bdV (e_X10_spans x1 x3 (σ2.1 (30, 0, 0, 0) ((x2 + (nI 10)).toNatClampNeg)) x1 σ2) (fun σ3 =>
    if x2 + (nI 4) < 0 ∨ 1432 ≤ (x2 + (nI 4)).toNatClampNeg then none else (
    let σ4 := st σ3 (30, 0, 0, 0) ((x2 + (nI 4)).toNatClampNeg) (nI 1);
    some (some none, σ4))))))
  else (
    if x2 + (nI 10) < 0 ∨ 1432 ≤ (x2 + (nI 10)).toNatClampNeg then none else (
    bdV (e_X10_spans x1 x3 (σ1.1 (30, 0, 0, 0) ((x2 + (nI 10)).toNatClampNeg)) x1 σ1) (fun σ5 =>
    if x2 + (nI 4) < 0 ∨ 1432 ≤ (x2 + (nI 4)).toNatClampNeg then none else (
    let σ6 := st σ5 (30, 0, 0, 0) ((x2 + (nI 4)).toNatClampNeg) (nI 1);
    some (some none, σ6))))))) := (EvOf_eq mcode _).trans rfl
set_option maxRecDepth 100000 in
set_option maxHeartbeats 4000000 in
theorem q_X10_stepEnd (σ : mS) : e_X10_stepEnd σ =
  b_X10_stepEnd_2 (nI 0) σ := (EvOf_eq mcode _).trans rfl
set_option maxRecDepth 100000 in
set_option maxHeartbeats 4000000 in
theorem q_X10_stepEnd_2 (x1 : Int32) (σ : mS) : b_X10_stepEnd_2 x1 σ =
  if nI 0 < 0 ∨ 1432 ≤ (nI 0).toNatClampNeg then none else (
  if x1 < σ.1 (30, 0, 0, 0) ((nI 0).toNatClampNeg) then (
    if x1 < 0 ∨ 6 ≤ x1.toNatClampNeg then none else (
    if (nI 135) + x1 < 0 ∨ 1432 ≤ ((nI 135) + x1).toNatClampNeg then none else (
    let σ1 := st σ (30, 0, 0, 0) (((nI 135) + x1).toNatClampNeg) (σ.1 (34, 0, 0, 0) x1.toNatClampNeg);
    if x1 < 0 ∨ 6 ≤ x1.toNatClampNeg then none else (
    if (nI 141) + x1 < 0 ∨ 1432 ≤ ((nI 141) + x1).toNatClampNeg then none else (
    let σ2 := st σ1 (30, 0, 0, 0) (((nI 141) + x1).toNatClampNeg) (σ1.1 (35, 0, 0, 0) x1.toNatClampNeg);
    if x1 < 0 ∨ 6 ≤ x1.toNatClampNeg then none else (
    let σ3 := st σ2 (34, 0, 0, 0) x1.toNatClampNeg (-1);
    bdI (e_X10_has (σ3.1 (10, 0, 0, 0) 12) x1 σ3) (fun v5 σ4 =>
    if v5 = 0 then (
      bdI (e_X10_hearsOthers x1 (-1) σ4) (fun v7 σ6 =>
      if v7 = 0 then (
        if nI 1331 < 0 ∨ 1432 ≤ (nI 1331).toNatClampNeg then none else (
        bdI (e_X10_has (σ6.1 (30, 0, 0, 0) ((nI 1331).toNatClampNeg)) x1 σ6) (fun v9 σ8 =>
        if v9 = 0 then (
          if nI 1 = 0 then (
            if (nI 123) + x1 < 0 ∨ 1432 ≤ ((nI 123) + x1).toNatClampNeg then none else (
            let σ10 := st σ8 (30, 0, 0, 0) (((nI 123) + x1).toNatClampNeg) (nI 0);
            b_X10_stepEnd_122 x1 (nI 0) σ10))
          else (
            if (nI 123) + x1 < 0 ∨ 1432 ≤ ((nI 123) + x1).toNatClampNeg then none else (
            if (nI 123) + x1 < 0 ∨ 1432 ≤ ((nI 123) + x1).toNatClampNeg then none else (
            let σ11 := st σ8 (30, 0, 0, 0) (((nI 123) + x1).toNatClampNeg) ((σ8.1 (30, 0, 0, 0) (((nI 123) + x1).toNatClampNeg)) + (nI 1));
            b_X10_stepEnd_122 x1 (nI 0) σ11))))
        else (
          if nI 0 = 0 then (
            if (nI 123) + x1 < 0 ∨ 1432 ≤ ((nI 123) + x1).toNatClampNeg then none else (
            let σ12 := st σ8 (30, 0, 0, 0) (((nI 123) + x1).toNatClampNeg) (nI 0);
            b_X10_stepEnd_122 x1 (nI 0) σ12))
          else (
            if (nI 123) + x1 < 0 ∨ 1432 ≤ ((nI 123) + x1).toNatClampNeg then none else (
            if (nI 123) + x1 < 0 ∨ 1432 ≤ ((nI 123) + x1).toNatClampNeg then none else (
            let σ13 := st σ8 (30, 0, 0, 0) (((nI 123) + x1).toNatClampNeg) ((σ8.1 (30, 0, 0, 0) (((nI 123) + x1).toNatClampNeg)) + (nI 1));
            b_X10_stepEnd_122 x1 (nI 0) σ13)))))))
      else (
        if nI 0 = 0 then (
          if (nI 123) + x1 < 0 ∨ 1432 ≤ ((nI 123) + x1).toNatClampNeg then none else (
          let σ14 := st σ6 (30, 0, 0, 0) (((nI 123) + x1).toNatClampNeg) (nI 0);
          b_X10_stepEnd_122 x1 (nI 0) σ14))
        else (
          if (nI 123) + x1 < 0 ∨ 1432 ≤ ((nI 123) + x1).toNatClampNeg then none else (
          if (nI 123) + x1 < 0 ∨ 1432 ≤ ((nI 123) + x1).toNatClampNeg then none else (
          let σ15 := st σ6 (30, 0, 0, 0) (((nI 123) + x1).toNatClampNeg) ((σ6.1 (30, 0, 0, 0) (((nI 123) + x1).toNatClampNeg)) + (nI 1));
          b_X10_stepEnd_122 x1 (nI 0) σ15))))))
    else (
      if nI 0 = 0 then (
        if (nI 123) + x1 < 0 ∨ 1432 ≤ ((nI 123) + x1).toNatClampNeg then none else (
        let σ16 := st σ4 (30, 0, 0, 0) (((nI 123) + x1).toNatClampNeg) (nI 0);
        b_X10_stepEnd_122 x1 (nI 0) σ16))
      else (
        if (nI 123) + x1 < 0 ∨ 1432 ≤ ((nI 123) + x1).toNatClampNeg then none else (
        if (nI 123) + x1 < 0 ∨ 1432 ≤ ((nI 123) + x1).toNatClampNeg then none else (
        let σ17 := st σ4 (30, 0, 0, 0) (((nI 123) + x1).toNatClampNeg) ((σ4.1 (30, 0, 0, 0) (((nI 123) + x1).toNatClampNeg)) + (nI 1));
        b_X10_stepEnd_122 x1 (nI 0) σ17)))))))))))
  else (
    if nI 1 < 0 ∨ 1432 ≤ (nI 1).toNatClampNeg then none else (
    if nI 1 < 0 ∨ 1432 ≤ (nI 1).toNatClampNeg then none else (
    let σ18 := st σ (30, 0, 0, 0) ((nI 1).toNatClampNeg) ((σ.1 (30, 0, 0, 0) ((nI 1).toNatClampNeg)) + (nI 1));
    some (some none, σ18))))) := (EvOf_eq mcode _).trans rfl
set_option maxRecDepth 100000 in
set_option maxHeartbeats 4000000 in
theorem q_X10_stepEnd_122 (x1 : Int32) (x3 : Int32) (σ : mS) : b_X10_stepEnd_122 x1 x3 σ =
  if x3 < nI 4 then (
    bdI (e_X10_at x1 x3 σ) (fun v2 σ1 =>
    if (nI 147) + v2 < 0 ∨ 1432 ≤ ((nI 147) + v2).toNatClampNeg then none else (
    if 0 < σ1.1 (30, 0, 0, 0) (((nI 147) + v2).toNatClampNeg) then (
      bdI (e_X10_at x1 x3 σ1) (fun v4 σ3 =>
      if (nI 1155) + v4 < 0 ∨ 1432 ≤ ((nI 1155) + v4).toNatClampNeg then none else (
      if 0 < σ3.1 (30, 0, 0, 0) (((nI 1155) + v4).toNatClampNeg) then (
        if (nI 123) + x1 < 0 ∨ 1432 ≤ ((nI 123) + x1).toNatClampNeg then none else (
        if (nI 5) + x3 < 0 ∨ 1432 ≤ ((nI 5) + x3).toNatClampNeg then none else (
        if σ3.1 (30, 0, 0, 0) (((nI 5) + x3).toNatClampNeg) < σ3.1 (30, 0, 0, 0) (((nI 123) + x1).toNatClampNeg) then (
          bdI (e_X10_at x1 x3 σ3) (fun v6 σ5 =>
          if (nI 1155) + v6 < 0 ∨ 1432 ≤ ((nI 1155) + v6).toNatClampNeg then none else (
          if (nI 1155) + v6 < 0 ∨ 1432 ≤ ((nI 1155) + v6).toNatClampNeg then none else (
          let σ7 := st σ5 (30, 0, 0, 0) (((nI 1155) + v6).toNatClampNeg) ((σ5.1 (30, 0, 0, 0) (((nI 1155) + v6).toNatClampNeg)) - (nI 1));
          b_X10_stepEnd_122 x1 (x3 + 1) σ7))))
        else (
          b_X10_stepEnd_122 x1 (x3 + 1) σ3))))
      else (
        b_X10_stepEnd_122 x1 (x3 + 1) σ3))))
    else (
      b_X10_stepEnd_122 x1 (x3 + 1) σ1))))
  else (
    b_X10_stepEnd_2 (x1 + 1) σ) := (EvOf_eq mcode _).trans rfl
set_option maxRecDepth 100000 in
set_option maxHeartbeats 4000000 in
theorem q_X10_stepHeld (σ : mS) : e_X10_stepHeld σ =
  b_X10_stepHeld_2 (nI 0) σ := (EvOf_eq mcode _).trans rfl
set_option maxRecDepth 100000 in
set_option maxHeartbeats 4000000 in
theorem q_X10_stepHeld_2 (x1 : Int32) (σ : mS) : b_X10_stepHeld_2 x1 σ =
  if nI 0 < 0 ∨ 1432 ≤ (nI 0).toNatClampNeg then none else (
  if x1 < σ.1 (30, 0, 0, 0) ((nI 0).toNatClampNeg) then (
    bdI (e_X10_isFree x1 σ) (fun v2 σ1 =>
    if v2 = 0 then (
      b_X10_stepHeld_2 (x1 + 1) σ1)
    else (
      bdI (e_X10_waiting x1 σ1) (fun v4 σ3 =>
      if v4 = 0 then (
        b_X10_stepHeld_2 (x1 + 1) σ3)
      else (
        if nI 1331 < 0 ∨ 1432 ≤ (nI 1331).toNatClampNeg then none else (
        bdI (e_X10_has (σ3.1 (30, 0, 0, 0) ((nI 1331).toNatClampNeg)) x1 σ3) (fun v6 σ5 =>
        if v6 = 0 then (
          bdI (e_X10_hearsOthers x1 (-1) σ5) (fun v8 σ7 =>
          if v8 = 0 then (
            if ((nI 1402) + ((nI 3) * x1)) + (nI 2) < 0 ∨ 1432 ≤ (((nI 1402) + ((nI 3) * x1)) + (nI 2)).toNatClampNeg then none else (
            if ((nI 1402) + ((nI 3) * x1)) + (nI 2) < 0 ∨ 1432 ≤ (((nI 1402) + ((nI 3) * x1)) + (nI 2)).toNatClampNeg then none else (
            let σ9 := st σ7 (30, 0, 0, 0) ((((nI 1402) + ((nI 3) * x1)) + (nI 2)).toNatClampNeg) ((σ7.1 (30, 0, 0, 0) ((((nI 1402) + ((nI 3) * x1)) + (nI 2)).toNatClampNeg)) + (nI 1));
            b_X10_stepHeld_2 (x1 + 1) σ9)))
          else (
            if ((nI 1402) + ((nI 3) * x1)) + (nI 1) < 0 ∨ 1432 ≤ (((nI 1402) + ((nI 3) * x1)) + (nI 1)).toNatClampNeg then none else (
            if ((nI 1402) + ((nI 3) * x1)) + (nI 1) < 0 ∨ 1432 ≤ (((nI 1402) + ((nI 3) * x1)) + (nI 1)).toNatClampNeg then none else (
            let σ10 := st σ7 (30, 0, 0, 0) ((((nI 1402) + ((nI 3) * x1)) + (nI 1)).toNatClampNeg) ((σ7.1 (30, 0, 0, 0) ((((nI 1402) + ((nI 3) * x1)) + (nI 1)).toNatClampNeg)) + (nI 1));
            b_X10_stepHeld_2 (x1 + 1) σ10)))))
        else (
          if ((nI 1402) + ((nI 3) * x1)) + (nI 0) < 0 ∨ 1432 ≤ (((nI 1402) + ((nI 3) * x1)) + (nI 0)).toNatClampNeg then none else (
          if ((nI 1402) + ((nI 3) * x1)) + (nI 0) < 0 ∨ 1432 ≤ (((nI 1402) + ((nI 3) * x1)) + (nI 0)).toNatClampNeg then none else (
          let σ11 := st σ5 (30, 0, 0, 0) ((((nI 1402) + ((nI 3) * x1)) + (nI 0)).toNatClampNeg) ((σ5.1 (30, 0, 0, 0) ((((nI 1402) + ((nI 3) * x1)) + (nI 0)).toNatClampNeg)) + (nI 1));
          b_X10_stepHeld_2 (x1 + 1) σ11))))))))))
  else (
    some (some none, σ))) := (EvOf_eq mcode _).trans rfl
set_option maxRecDepth 100000 in
set_option maxHeartbeats 4000000 in
theorem q_X10_slot (σ : mS) : e_X10_slot σ =
  bdV (e_X10_stepBegin σ) (fun σ1 =>
  bdV (e_X10_stepSend σ1) (fun σ2 =>
  bdV (e_X10_stepHeld σ2) (fun σ3 =>
  b_X10_slot_14 (nI 0) σ3))) := (EvOf_eq mcode _).trans rfl
set_option maxRecDepth 100000 in
set_option maxHeartbeats 4000000 in
theorem q_X10_slot_14 (x1 : Int32) (σ : mS) : b_X10_slot_14 x1 σ =
  if nI 0 < 0 ∨ 1432 ≤ (nI 0).toNatClampNeg then none else (
  if x1 < σ.1 (30, 0, 0, 0) ((nI 0).toNatClampNeg) then (
    bdI (e_X10_exchangeAt x1 σ) (fun v2 σ1 =>
    if v2 + (nI 0) < 0 ∨ 1432 ≤ (v2 + (nI 0)).toNatClampNeg then none else (
    if σ1.1 (30, 0, 0, 0) ((v2 + (nI 0)).toNatClampNeg) = nI 1 then (
      bdV (e_X10_stepSender x1 σ1) (fun σ3 =>
      b_X10_slot_14 (x1 + 1) σ3))
    else (
      b_X10_slot_14 (x1 + 1) σ1))))
  else (
    bdV (e_X10_stepEnd σ) (fun σ4 =>
    some (some none, σ4)))) := (EvOf_eq mcode _).trans rfl
set_option maxRecDepth 100000 in
set_option maxHeartbeats 4000000 in
theorem q_X10_goSlots (p1 : Int32) (σ : mS) : e_X10_goSlots p1 σ =
  b_X10_goSlots_2 p1 (nI 0) σ := (EvOf_eq mcode _).trans rfl
set_option maxRecDepth 100000 in
set_option maxHeartbeats 4000000 in
theorem q_X10_goSlots_2 (x1 : Int32) (x2 : Int32) (σ : mS) : b_X10_goSlots_2 x1 x2 σ =
  if x2 < x1 then (
    bdV (e_X10_slot σ) (fun σ1 =>
    b_X10_goSlots_2 x1 (x2 + 1) σ1))
  else (
    some (some none, σ)) := (EvOf_eq mcode _).trans rfl
set_option maxRecDepth 100000 in
set_option maxHeartbeats 4000000 in
theorem q_X10_slots (p1 : Int32) (σ : mS) : e_X10_slots p1 σ =
  let σ1 := st σ (10, 0, 0, 0) 5 (nI 0);
  bdI (e_X10_in p1 (nI 1) (nI 60) σ1) (fun v3 σ2 =>
  if v3 = 0 then (
    some (some (some (.inl (-1))), σ2))
  else (
    bdV (e_X10_change σ2) (fun σ4 =>
    if nI 1336 < 0 ∨ 1432 ≤ (nI 1336).toNatClampNeg then none else (
    if nI 1337 < 0 ∨ 1432 ≤ (nI 1337).toNatClampNeg then none else (
    if nI 1338 < 0 ∨ 1432 ≤ (nI 1338).toNatClampNeg then none else (
    if nI 1339 < 0 ∨ 1432 ≤ (nI 1339).toNatClampNeg then none else (
    bdV (e_X10_goSlots p1 σ4) (fun σ5 =>
    let σ6 := st σ5 (10, 0, 0, 0) 4 (nI 0);
    if nI 1337 < 0 ∨ 1432 ≤ (nI 1337).toNatClampNeg then none else (
    bdV (e_X10_tell (((σ6.1 (30, 0, 0, 0) ((nI 1337).toNatClampNeg)) - (σ4.1 (30, 0, 0, 0) ((nI 1337).toNatClampNeg))).toInt64) σ6) (fun σ7 =>
    if nI 1338 < 0 ∨ 1432 ≤ (nI 1338).toNatClampNeg then none else (
    bdV (e_X10_tell (((σ7.1 (30, 0, 0, 0) ((nI 1338).toNatClampNeg)) - (σ4.1 (30, 0, 0, 0) ((nI 1338).toNatClampNeg))).toInt64) σ7) (fun σ8 =>
    if nI 1339 < 0 ∨ 1432 ≤ (nI 1339).toNatClampNeg then none else (
    bdV (e_X10_tell (((σ8.1 (30, 0, 0, 0) ((nI 1339).toNatClampNeg)) - (σ4.1 (30, 0, 0, 0) ((nI 1339).toNatClampNeg))).toInt64) σ8) (fun σ9 =>
    if nI 1336 < 0 ∨ 1432 ≤ (nI 1336).toNatClampNeg then none else (
    some (some (some (.inl ((σ9.1 (30, 0, 0, 0) ((nI 1336).toNatClampNeg)) - (σ4.1 (30, 0, 0, 0) ((nI 1336).toNatClampNeg))))), σ9)))))))))))))))) := (EvOf_eq mcode _).trans rfl
set_option maxRecDepth 100000 in
set_option maxHeartbeats 4000000 in
theorem q_X10_drawAll (σ : mS) : e_X10_drawAll σ =
  b_X10_drawAll_4 (nI 0) (nI 0) σ := (EvOf_eq mcode _).trans rfl
set_option maxRecDepth 100000 in
set_option maxHeartbeats 4000000 in
theorem q_X10_drawAll_4 (x1 : Int32) (x2 : Int32) (σ : mS) : b_X10_drawAll_4 x1 x2 σ =
  if nI 0 < 0 ∨ 1432 ≤ (nI 0).toNatClampNeg then none else (
  if x2 < σ.1 (30, 0, 0, 0) ((nI 0).toNatClampNeg) then (
    b_X10_drawAll_16 x1 x2 (nI 0) σ)
  else (
    some (some (some (.inl x1)), σ))) := (EvOf_eq mcode _).trans rfl
set_option maxRecDepth 100000 in
set_option maxHeartbeats 4000000 in
theorem q_X10_drawAll_16 (x1 : Int32) (x2 : Int32) (x3 : Int32) (σ : mS) : b_X10_drawAll_16 x1 x2 x3 σ =
  if x3 < nI 4 then (
    bdI (e_X10_at x2 x3 σ) (fun v2 σ1 =>
    if (nI 147) + v2 < 0 ∨ 1432 ≤ ((nI 147) + v2).toNatClampNeg then none else (
    if σ1.1 (30, 0, 0, 0) (((nI 147) + v2).toNatClampNeg) = 0 then (
      b_X10_drawAll_16 x1 x2 (x3 + 1) σ1)
    else (
      bdV (e_X10_drawsCount x2 x3 σ1) (fun σ3 =>
      b_X10_drawAll_16 (x1 + 1) x2 (x3 + 1) σ3)))))
  else (
    b_X10_drawAll_4 x1 (x2 + 1) σ) := (EvOf_eq mcode _).trans rfl
set_option maxRecDepth 100000 in
set_option maxHeartbeats 4000000 in
theorem q_X10_draws (σ : mS) : e_X10_draws σ =
  let σ1 := st σ (10, 0, 0, 0) 5 (nI 0);
  bdV (e_X10_change σ1) (fun σ2 =>
  bdI (e_X10_drawAll σ2) (fun v4 σ3 =>
  some (some (some (.inl v4)), σ3))) := (EvOf_eq mcode _).trans rfl
set_option maxRecDepth 100000 in
set_option maxHeartbeats 4000000 in
theorem q_X10_waiting (p1 : Int32) (σ : mS) : e_X10_waiting p1 σ =
  b_X10_waiting_4 p1 (nI 0) (nI 0) σ := (EvOf_eq mcode _).trans rfl
set_option maxRecDepth 100000 in
set_option maxHeartbeats 4000000 in
theorem q_X10_waiting_4 (x1 : Int32) (x2 : Int32) (x3 : Int32) (σ : mS) : b_X10_waiting_4 x1 x2 x3 σ =
  if x3 < nI 4 then (
    bdI (e_X10_at x1 x3 σ) (fun v2 σ1 =>
    if (nI 147) + v2 < 0 ∨ 1432 ≤ ((nI 147) + v2).toNatClampNeg then none else (
    b_X10_waiting_4 x1 (x2 + (σ1.1 (30, 0, 0, 0) (((nI 147) + v2).toNatClampNeg))) (x3 + 1) σ1)))
  else (
    some (some (some (.inl x2)), σ)) := (EvOf_eq mcode _).trans rfl
set_option maxRecDepth 100000 in
set_option maxHeartbeats 4000000 in
theorem q_X10_allWaiting (σ : mS) : e_X10_allWaiting σ =
  b_X10_allWaiting_4 (nI 0) (nI 0) σ := (EvOf_eq mcode _).trans rfl
set_option maxRecDepth 100000 in
set_option maxHeartbeats 4000000 in
theorem q_X10_allWaiting_4 (x1 : Int32) (x2 : Int32) (σ : mS) : b_X10_allWaiting_4 x1 x2 σ =
  if nI 0 < 0 ∨ 1432 ≤ (nI 0).toNatClampNeg then none else (
  if x2 < σ.1 (30, 0, 0, 0) ((nI 0).toNatClampNeg) then (
    bdI (e_X10_waiting x2 σ) (fun v2 σ1 =>
    b_X10_allWaiting_4 (x1 + v2) (x2 + 1) σ1))
  else (
    some (some (some (.inl x1)), σ))) := (EvOf_eq mcode _).trans rfl
set_option maxRecDepth 100000 in
set_option maxHeartbeats 4000000 in
theorem q_X10_heardBy (p1 : Int32) (σ : mS) : e_X10_heardBy p1 σ =
  b_X10_heardBy_4 p1 (nI 0) (nI 0) σ := (EvOf_eq mcode _).trans rfl
set_option maxRecDepth 100000 in
set_option maxHeartbeats 4000000 in
theorem q_X10_heardBy_4 (x1 : Int32) (x2 : Int32) (x3 : Int32) (σ : mS) : b_X10_heardBy_4 x1 x2 x3 σ =
  if nI 0 < 0 ∨ 1432 ≤ (nI 0).toNatClampNeg then none else (
  if x3 < σ.1 (30, 0, 0, 0) ((nI 0).toNatClampNeg) then (
    bdI (e_X10_hears x1 x3 σ) (fun v2 σ1 =>
    if v2 = 0 then (
      b_X10_heardBy_4 x1 (x2 ||| (nI 0)) (x3 + 1) σ1)
    else (
      b_X10_heardBy_4 x1 (x2 ||| ((nI 1) <<< (x3 &&& 31))) (x3 + 1) σ1)))
  else (
    some (some (some (.inl x2)), σ))) := (EvOf_eq mcode _).trans rfl
set_option maxRecDepth 100000 in
set_option maxHeartbeats 4000000 in
theorem q_X10_station (p1 : Int32) (p2 : Int32) (σ : mS) : e_X10_station p1 p2 σ =
  let σ1 := st σ (10, 0, 0, 0) 5 (nI 0);
  bdI (e_X10_isStation p1 σ1) (fun v3 σ2 =>
  if v3 = 0 then (
    bdI (e_X10_lost σ2) (fun v5 σ4 =>
    some (some (some (.inl v5)), σ4)))
  else (
    if p2 = nI 0 then (
      if (nI 123) + p1 < 0 ∨ 1432 ≤ ((nI 123) + p1).toNatClampNeg then none else (
      some (some (some (.inl (σ2.1 (30, 0, 0, 0) (((nI 123) + p1).toNatClampNeg)))), σ2)))
    else if p2 = nI 1 then (
      if (nI 129) + p1 < 0 ∨ 1432 ≤ ((nI 129) + p1).toNatClampNeg then none else (
      some (some (some (.inl (σ2.1 (30, 0, 0, 0) (((nI 129) + p1).toNatClampNeg)))), σ2)))
    else if p2 = nI 2 then (
      bdI (e_X10_exchangeAt p1 σ2) (fun v7 σ6 =>
      if v7 + (nI 0) < 0 ∨ 1432 ≤ (v7 + (nI 0)).toNatClampNeg then none else (
      if σ6.1 (30, 0, 0, 0) ((v7 + (nI 0)).toNatClampNeg) = 0 then (
        if (nI 135) + p1 < 0 ∨ 1432 ≤ ((nI 135) + p1).toNatClampNeg then none else (
        if σ6.1 (30, 0, 0, 0) (((nI 135) + p1).toNatClampNeg) = (-1) then (
          some (some (some (.inl (nI 1))), σ6))
        else (
          some (some (some (.inl (nI 0))), σ6))))
      else (
        some (some (some (.inl (nI 0))), σ6)))))
    else if p2 = nI 3 then (
      if (nI 135) + p1 < 0 ∨ 1432 ≤ ((nI 135) + p1).toNatClampNeg then none else (
      some (some (some (.inl (σ2.1 (30, 0, 0, 0) (((nI 135) + p1).toNatClampNeg)))), σ2)))
    else if p2 = nI 4 then (
      if (nI 141) + p1 < 0 ∨ 1432 ≤ ((nI 141) + p1).toNatClampNeg then none else (
      some (some (some (.inl (σ2.1 (30, 0, 0, 0) (((nI 141) + p1).toNatClampNeg)))), σ2)))
    else if p2 = nI 5 then (
      bdI (e_X10_heardBy p1 σ2) (fun v9 σ8 =>
      some (some (some (.inl v9)), σ8)))
    else if p2 = nI 6 then (
      bdI (e_X10_waiting p1 σ2) (fun v11 σ10 =>
      some (some (some (.inl v11)), σ10)))
    else (bdI (e_X10_lost σ2) (fun v13 σ12 =>
      some (some (some (.inl v13)), σ12))))) := (EvOf_eq mcode _).trans rfl
set_option maxRecDepth 100000 in
set_option maxHeartbeats 4000000 in
theorem q_X10_rank (p1 : Int32) (p2 : Int32) (p3 : Int32) (σ : mS) : e_X10_rank p1 p2 p3 σ =
  let σ1 := st σ (10, 0, 0, 0) 5 (nI 0);
  bdI (e_X10_isStation p1 σ1) (fun v3 σ2 =>
  if v3 = 0 then (
    bdI (e_X10_lost σ2) (fun v5 σ4 =>
    some (some (some (.inl v5)), σ4)))
  else (
    bdI (e_X10_isRank p2 σ2) (fun v7 σ6 =>
    if v7 = 0 then (
      bdI (e_X10_lost σ6) (fun v9 σ8 =>
      some (some (some (.inl v9)), σ8)))
    else (
      if p3 = nI 0 then (
        bdI (e_X10_at p1 p2 σ6) (fun v11 σ10 =>
        if (nI 147) + v11 < 0 ∨ 1432 ≤ ((nI 147) + v11).toNatClampNeg then none else (
        some (some (some (.inl (σ10.1 (30, 0, 0, 0) (((nI 147) + v11).toNatClampNeg)))), σ10))))
      else if p3 = nI 1 then (
        bdI (e_X10_at p1 p2 σ6) (fun v13 σ12 =>
        if (nI 1155) + v13 < 0 ∨ 1432 ≤ ((nI 1155) + v13).toNatClampNeg then none else (
        some (some (some (.inl (σ12.1 (30, 0, 0, 0) (((nI 1155) + v13).toNatClampNeg)))), σ12))))
      else if p3 = nI 2 then (
        bdI (e_X10_at p1 p2 σ6) (fun v15 σ14 =>
        if (nI 1131) + v15 < 0 ∨ 1432 ≤ ((nI 1131) + v15).toNatClampNeg then none else (
        some (some (some (.inl (σ14.1 (30, 0, 0, 0) (((nI 1131) + v15).toNatClampNeg)))), σ14))))
      else if p3 = nI 3 then (
        bdI (e_X10_isReady p1 p2 σ6) (fun v17 σ16 =>
        if v17 = 0 then (
          some (some (some (.inl (nI 0))), σ16))
        else (
          some (some (some (.inl (nI 1))), σ16))))
      else (bdI (e_X10_lost σ6) (fun v19 σ18 =>
        some (some (some (.inl v19)), σ18))))))) := (EvOf_eq mcode _).trans rfl
set_option maxRecDepth 100000 in
set_option maxHeartbeats 4000000 in
theorem q_X10_frame (p1 : Int32) (p2 : Int32) (p3 : Int32) (p4 : Int32) (σ : mS) : e_X10_frame p1 p2 p3 p4 σ =
  let σ1 := st σ (10, 0, 0, 0) 5 (nI 0);
  bdI (e_X10_isStation p1 σ1) (fun v3 σ2 =>
  if v3 = 0 then (
    bdI (e_X10_lost σ2) (fun v5 σ4 =>
    some (some (some (.inl v5)), σ4)))
  else (
    bdI (e_X10_isRank p2 σ2) (fun v7 σ6 =>
    if v7 = 0 then (
      bdI (e_X10_lost σ6) (fun v9 σ8 =>
      some (some (some (.inl v9)), σ8)))
    else (
      bdI (e_X10_at p1 p2 σ6) (fun v11 σ10 =>
      if (nI 147) + v11 < 0 ∨ 1432 ≤ ((nI 147) + v11).toNatClampNeg then none else (
      bdI (e_X10_in p3 (nI 0) ((σ10.1 (30, 0, 0, 0) (((nI 147) + v11).toNatClampNeg)) - (nI 1)) σ10) (fun v13 σ12 =>
      if v13 = 0 then (
        bdI (e_X10_lost σ12) (fun v15 σ14 =>
        some (some (some (.inl v15)), σ14)))
      else (
        bdI (e_X10_in p4 (nI 0) (nI 3) σ12) (fun v17 σ16 =>
        if v17 = 0 then (
          bdI (e_X10_lost σ16) (fun v19 σ18 =>
          some (some (some (.inl v19)), σ18)))
        else (
          bdI (e_X10_frameAt p1 p2 p3 σ16) (fun v21 σ20 =>
          if v21 + p4 < 0 ∨ 1432 ≤ (v21 + p4).toNatClampNeg then none else (
          some (some (some (.inl (σ20.1 (30, 0, 0, 0) ((v21 + p4).toNatClampNeg)))), σ20))))))))))))) := (EvOf_eq mcode _).trans rfl
set_option maxRecDepth 100000 in
set_option maxHeartbeats 4000000 in
theorem q_X10_exchange (p1 : Int32) (p2 : Int32) (σ : mS) : e_X10_exchange p1 p2 σ =
  let σ1 := st σ (10, 0, 0, 0) 5 (nI 0);
  bdI (e_X10_isStation p1 σ1) (fun v3 σ2 =>
  if v3 = 0 then (
    some (some (some (.inl (-1))), σ2))
  else (
    bdI (e_X10_exchangeAt p1 σ2) (fun v5 σ4 =>
    if v5 + (nI 0) < 0 ∨ 1432 ≤ (v5 + (nI 0)).toNatClampNeg then none else (
    if σ4.1 (30, 0, 0, 0) ((v5 + (nI 0)).toNatClampNeg) = 0 then (
      some (some (some (.inl (-1))), σ4))
    else (
      bdI (e_X10_exchangeAt p1 σ4) (fun v7 σ6 =>
      if p2 = nI 0 then (
        if v7 + (nI 1) < 0 ∨ 1432 ≤ (v7 + (nI 1)).toNatClampNeg then none else (
        some (some (some (.inl (σ6.1 (30, 0, 0, 0) ((v7 + (nI 1)).toNatClampNeg)))), σ6)))
      else if p2 = nI 1 then (
        if v7 + (nI 2) < 0 ∨ 1432 ≤ (v7 + (nI 2)).toNatClampNeg then none else (
        some (some (some (.inl (σ6.1 (30, 0, 0, 0) ((v7 + (nI 2)).toNatClampNeg)))), σ6)))
      else if p2 = nI 2 then (
        if v7 + (nI 3) < 0 ∨ 1432 ≤ (v7 + (nI 3)).toNatClampNeg then none else (
        some (some (some (.inl (σ6.1 (30, 0, 0, 0) ((v7 + (nI 3)).toNatClampNeg)))), σ6)))
      else if p2 = nI 3 then (
        bdI (e_X10_placesOf v7 σ6) (fun v9 σ8 =>
        some (some (some (.inl v9)), σ8)))
      else if p2 = nI 4 then (
        if v7 + (nI 4) < 0 ∨ 1432 ≤ (v7 + (nI 4)).toNatClampNeg then none else (
        some (some (some (.inl (σ6.1 (30, 0, 0, 0) ((v7 + (nI 4)).toNatClampNeg)))), σ6)))
      else if p2 = nI 5 then (
        if v7 + (nI 4) < 0 ∨ 1432 ≤ (v7 + (nI 4)).toNatClampNeg then none else (
        if σ6.1 (30, 0, 0, 0) ((v7 + (nI 4)).toNatClampNeg) = nI 2 then (
          if v7 + (nI 5) < 0 ∨ 1432 ≤ (v7 + (nI 5)).toNatClampNeg then none else (
          some (some (some (.inl (σ6.1 (30, 0, 0, 0) ((v7 + (nI 5)).toNatClampNeg)))), σ6)))
        else (
          some (some (some (.inl (nI 1))), σ6))))
      else if p2 = nI 6 then (
        if v7 + (nI 6) < 0 ∨ 1432 ≤ (v7 + (nI 6)).toNatClampNeg then none else (
        some (some (some (.inl (σ6.1 (30, 0, 0, 0) ((v7 + (nI 6)).toNatClampNeg)))), σ6)))
      else (some (some (some (.inl (-1))), σ6)))))))) := (EvOf_eq mcode _).trans rfl
set_option maxRecDepth 100000 in
set_option maxHeartbeats 4000000 in
theorem q_X10_placesOf (p1 : Int32) (σ : mS) : e_X10_placesOf p1 σ =
  b_X10_placesOf_4 p1 (nI 0) (nI 0) σ := (EvOf_eq mcode _).trans rfl
set_option maxRecDepth 100000 in
set_option maxHeartbeats 4000000 in
theorem q_X10_placesOf_4 (x1 : Int32) (x2 : Int32) (x3 : Int32) (σ : mS) : b_X10_placesOf_4 x1 x2 x3 σ =
  if x1 + (nI 3) < 0 ∨ 1432 ≤ (x1 + (nI 3)).toNatClampNeg then none else (
  if x3 < σ.1 (30, 0, 0, 0) ((x1 + (nI 3)).toNatClampNeg) then (
    if (x1 + (nI 11)) + x3 < 0 ∨ 1432 ≤ ((x1 + (nI 11)) + x3).toNatClampNeg then none else (
    b_X10_placesOf_4 x1 (x2 + (σ.1 (30, 0, 0, 0) (((x1 + (nI 11)) + x3).toNatClampNeg))) (x3 + 1) σ))
  else (
    some (some (some (.inl x2)), σ))) := (EvOf_eq mcode _).trans rfl
set_option maxRecDepth 100000 in
set_option maxHeartbeats 4000000 in
theorem q_X10_sent (σ : mS) : e_X10_sent σ =
  let σ1 := st σ (10, 0, 0, 0) 5 (nI 0);
  if nI 1332 < 0 ∨ 1432 ≤ (nI 1332).toNatClampNeg then none else (
  if σ1.1 (30, 0, 0, 0) ((nI 1332).toNatClampNeg) = 0 then (
    some (some (some (.inl (-2))), σ1))
  else (
    let σ2 := st σ1 (10, 0, 0, 0) 4 (nI 0);
    if nI 1330 < 0 ∨ 1432 ≤ (nI 1330).toNatClampNeg then none else (
    bdV (e_X10_tell ((σ2.1 (30, 0, 0, 0) ((nI 1330).toNatClampNeg)).toInt64) σ2) (fun σ3 =>
    if nI 1331 < 0 ∨ 1432 ≤ (nI 1331).toNatClampNeg then none else (
    bdV (e_X10_tell ((σ3.1 (30, 0, 0, 0) ((nI 1331).toNatClampNeg)).toInt64) σ3) (fun σ4 =>
    if nI 1329 < 0 ∨ 1432 ≤ (nI 1329).toNatClampNeg then none else (
    some (some (some (.inl (σ4.1 (30, 0, 0, 0) ((nI 1329).toNatClampNeg)))), σ4)))))))) := (EvOf_eq mcode _).trans rfl
set_option maxRecDepth 100000 in
set_option maxHeartbeats 4000000 in
theorem q_X10_spanOf (p1 : Int32) (σ : mS) : e_X10_spanOf p1 σ =
  let σ1 := st σ (10, 0, 0, 0) 5 (nI 0);
  bdI (e_X10_isStation p1 σ1) (fun v3 σ2 =>
  if v3 = 0 then (
    some (some (some (.inl (-1))), σ2))
  else (
    if nI 1 < 0 ∨ 1432 ≤ (nI 1).toNatClampNeg then none else (
    if (nI 129) + p1 < 0 ∨ 1432 ≤ ((nI 129) + p1).toNatClampNeg then none else (
    if σ2.1 (30, 0, 0, 0) ((nI 1).toNatClampNeg) < σ2.1 (30, 0, 0, 0) (((nI 129) + p1).toNatClampNeg) then (
      let σ4 := st σ2 (10, 0, 0, 0) 4 (nI 0);
      if (nI 1426) + p1 < 0 ∨ 1432 ≤ ((nI 1426) + p1).toNatClampNeg then none else (
      bdV (e_X10_tell ((σ4.1 (30, 0, 0, 0) (((nI 1426) + p1).toNatClampNeg)).toInt64) σ4) (fun σ5 =>
      if (nI 129) + p1 < 0 ∨ 1432 ≤ ((nI 129) + p1).toNatClampNeg then none else (
      if nI 1 < 0 ∨ 1432 ≤ (nI 1).toNatClampNeg then none else (
      bdV (e_X10_tell (((σ5.1 (30, 0, 0, 0) (((nI 129) + p1).toNatClampNeg)) - (σ5.1 (30, 0, 0, 0) ((nI 1).toNatClampNeg))).toInt64) σ5) (fun σ6 =>
      if (nI 1420) + p1 < 0 ∨ 1432 ≤ ((nI 1420) + p1).toNatClampNeg then none else (
      some (some (some (.inl (σ6.1 (30, 0, 0, 0) (((nI 1420) + p1).toNatClampNeg)))), σ6))))))))
    else (
      some (some (some (.inl (-2))), σ2)))))) := (EvOf_eq mcode _).trans rfl
set_option maxRecDepth 100000 in
set_option maxHeartbeats 4000000 in
theorem q_X10_rate (p1 : Int32) (p2 : Int32) (σ : mS) : e_X10_rate p1 p2 σ =
  let σ1 := st σ (10, 0, 0, 0) 5 (nI 0);
  bdI (e_X10_isStation p1 σ1) (fun v3 σ2 =>
  if v3 = 0 then (
    some (some (some (.inl (-1))), σ2))
  else (
    bdI (e_X10_isStation p2 σ2) (fun v5 σ4 =>
    if v5 = 0 then (
      some (some (some (.inl (-1))), σ4))
    else (
      if p1 = p2 then (
        some (some (some (.inl (-1))), σ4))
      else (
        bdI (e_X10_hears p1 p2 σ4) (fun v7 σ6 =>
        if v7 = 0 then (
          some (some (some (.inl (-2))), σ6))
        else (
          let σ8 := st σ6 (10, 0, 0, 0) 4 (nI 0);
          if ((nI 87) + ((nI 6) * p1)) + p2 < 0 ∨ 1432 ≤ (((nI 87) + ((nI 6) * p1)) + p2).toNatClampNeg then none else (
          bdV (e_X10_tell ((σ8.1 (30, 0, 0, 0) ((((nI 87) + ((nI 6) * p1)) + p2).toNatClampNeg)).toInt64) σ8) (fun σ9 =>
          bdI (e_X10_quality p1 p2 σ9) (fun v11 σ10 =>
          bdV (e_X10_tell ((v11).toInt64) σ10) (fun σ12 =>
          if ((nI 51) + ((nI 6) * p1)) + p2 < 0 ∨ 1432 ≤ (((nI 51) + ((nI 6) * p1)) + p2).toNatClampNeg then none else (
          some (some (some (.inl (σ12.1 (30, 0, 0, 0) ((((nI 51) + ((nI 6) * p1)) + p2).toNatClampNeg)))), σ12))))))))))))) := (EvOf_eq mcode _).trans rfl
set_option maxRecDepth 100000 in
set_option maxHeartbeats 4000000 in
theorem q_X10_hidden (σ : mS) : e_X10_hidden σ =
  let σ1 := st σ (10, 0, 0, 0) 5 (nI 0);
  let σ2 := st σ1 (10, 0, 0, 0) 4 (nI 0);
  b_X10_hidden_12 (nI 0) σ2 := (EvOf_eq mcode _).trans rfl
set_option maxRecDepth 100000 in
set_option maxHeartbeats 4000000 in
theorem q_X10_hidden_12 (x1 : Int32) (σ : mS) : b_X10_hidden_12 x1 σ =
  if nI 0 < 0 ∨ 1432 ≤ (nI 0).toNatClampNeg then none else (
  if x1 < σ.1 (30, 0, 0, 0) ((nI 0).toNatClampNeg) then (
    b_X10_hidden_26 x1 (x1 + (nI 1)) σ)
  else (
    some (some (some (.inl (σ.1 (10, 0, 0, 0) 4))), σ))) := (EvOf_eq mcode _).trans rfl
set_option maxRecDepth 100000 in
set_option maxHeartbeats 4000000 in
theorem q_X10_hidden_26 (x1 : Int32) (x2 : Int32) (σ : mS) : b_X10_hidden_26 x1 x2 σ =
  if nI 0 < 0 ∨ 1432 ≤ (nI 0).toNatClampNeg then none else (
  if x2 < σ.1 (30, 0, 0, 0) ((nI 0).toNatClampNeg) then (
    bdI (e_X10_hears x1 x2 σ) (fun v2 σ1 =>
    if v2 = 0 then (
      bdI (e_X10_heardBy x1 σ1) (fun v4 σ3 =>
      bdI (e_X10_heardBy x2 σ3) (fun v6 σ5 =>
      if v4 &&& v6 = 0 then (
        b_X10_hidden_26 x1 (x2 + 1) σ5)
      else (
        bdV (e_X10_tell ((((nI 6) * x1) + x2).toInt64) σ5) (fun σ7 =>
        b_X10_hidden_26 x1 (x2 + 1) σ7)))))
    else (
      b_X10_hidden_26 x1 (x2 + 1) σ1)))
  else (
    b_X10_hidden_12 (x1 + 1) σ)) := (EvOf_eq mcode _).trans rfl
set_option maxRecDepth 100000 in
set_option maxHeartbeats 4000000 in
theorem q_X10_tally (p1 : Int32) (p2 : Int32) (σ : mS) : e_X10_tally p1 p2 σ =
  let σ1 := st σ (10, 0, 0, 0) 5 (nI 0);
  bdI (e_X10_isStation p1 σ1) (fun v3 σ2 =>
  if v3 = 0 then (
    bdI (e_X10_lost σ2) (fun v5 σ4 =>
    some (some (some (.inl v5)), σ4)))
  else (
    bdI (e_X10_in p2 (nI 0) (nI 8) σ2) (fun v7 σ6 =>
    if v7 = 0 then (
      bdI (e_X10_lost σ6) (fun v9 σ8 =>
      some (some (some (.inl v9)), σ8)))
    else (
      if ((nI 1275) + ((nI 9) * p1)) + p2 < 0 ∨ 1432 ≤ (((nI 1275) + ((nI 9) * p1)) + p2).toNatClampNeg then none else (
      some (some (some (.inl (σ6.1 (30, 0, 0, 0) ((((nI 1275) + ((nI 9) * p1)) + p2).toNatClampNeg)))), σ6)))))) := (EvOf_eq mcode _).trans rfl
set_option maxRecDepth 100000 in
set_option maxHeartbeats 4000000 in
theorem q_X10_held (p1 : Int32) (σ : mS) : e_X10_held p1 σ =
  let σ1 := st σ (10, 0, 0, 0) 5 (nI 0);
  bdI (e_X10_isStation p1 σ1) (fun v3 σ2 =>
  if v3 = 0 then (
    some (some (some (.inl (-1))), σ2))
  else (
    let σ4 := st σ2 (10, 0, 0, 0) 4 (nI 0);
    b_X10_held_24 p1 (nI 0) (nI 0) σ4)) := (EvOf_eq mcode _).trans rfl
set_option maxRecDepth 100000 in
set_option maxHeartbeats 4000000 in
theorem q_X10_held_24 (x1 : Int32) (x2 : Int32) (x3 : Int32) (σ : mS) : b_X10_held_24 x1 x2 x3 σ =
  if x3 < nI 3 then (
    if ((nI 1402) + ((nI 3) * x1)) + x3 < 0 ∨ 1432 ≤ (((nI 1402) + ((nI 3) * x1)) + x3).toNatClampNeg then none else (
    bdV (e_X10_tell ((σ.1 (30, 0, 0, 0) ((((nI 1402) + ((nI 3) * x1)) + x3).toNatClampNeg)).toInt64) σ) (fun σ1 =>
    if ((nI 1402) + ((nI 3) * x1)) + x3 < 0 ∨ 1432 ≤ (((nI 1402) + ((nI 3) * x1)) + x3).toNatClampNeg then none else (
    b_X10_held_24 x1 (x2 + (σ1.1 (30, 0, 0, 0) ((((nI 1402) + ((nI 3) * x1)) + x3).toNatClampNeg))) (x3 + 1) σ1))))
  else (
    some (some (some (.inl x2)), σ)) := (EvOf_eq mcode _).trans rfl
set_option maxRecDepth 100000 in
set_option maxHeartbeats 4000000 in
theorem q_X10_why (p1 : Int32) (σ : mS) : e_X10_why p1 σ =
  let σ1 := st σ (10, 0, 0, 0) 5 (nI 0);
  bdI (e_X10_isStation p1 σ1) (fun v3 σ2 =>
  if v3 = 0 then (
    some (some (some (.inl (-1))), σ2))
  else (
    if (nI 1342) + ((nI 3) * p1) < 0 ∨ 1432 ≤ ((nI 1342) + ((nI 3) * p1)).toNatClampNeg then none else (
    if σ2.1 (30, 0, 0, 0) (((nI 1342) + ((nI 3) * p1)).toNatClampNeg) = 0 then (
      some (some (some (.inl (-2))), σ2))
    else (
      let σ4 := st σ2 (10, 0, 0, 0) 4 (nI 0);
      if ((nI 1342) + ((nI 3) * p1)) + (nI 1) < 0 ∨ 1432 ≤ (((nI 1342) + ((nI 3) * p1)) + (nI 1)).toNatClampNeg then none else (
      bdV (e_X10_tell ((σ4.1 (30, 0, 0, 0) ((((nI 1342) + ((nI 3) * p1)) + (nI 1)).toNatClampNeg)).toInt64) σ4) (fun σ5 =>
      if ((nI 1342) + ((nI 3) * p1)) + (nI 2) < 0 ∨ 1432 ≤ (((nI 1342) + ((nI 3) * p1)) + (nI 2)).toNatClampNeg then none else (
      bdV (e_X10_tell ((σ5.1 (30, 0, 0, 0) ((((nI 1342) + ((nI 3) * p1)) + (nI 2)).toNatClampNeg)).toInt64) σ5) (fun σ6 =>
      if (nI 1342) + ((nI 3) * p1) < 0 ∨ 1432 ≤ ((nI 1342) + ((nI 3) * p1)).toNatClampNeg then none else (
      some (some (some (.inl (σ6.1 (30, 0, 0, 0) (((nI 1342) + ((nI 3) * p1)).toNatClampNeg)))), σ6)))))))))) := (EvOf_eq mcode _).trans rfl
set_option maxRecDepth 100000 in
set_option maxHeartbeats 4000000 in
theorem q_X10_spoilt (p1 : Int32) (p2 : Int32) (σ : mS) : e_X10_spoilt p1 p2 σ =
  let σ1 := st σ (10, 0, 0, 0) 5 (nI 0);
  bdI (e_X10_isStation p1 σ1) (fun v3 σ2 =>
  if v3 = 0 then (
    some (some (some (.inl (-1))), σ2))
  else (
    bdI (e_X10_isStation p2 σ2) (fun v5 σ4 =>
    if v5 = 0 then (
      some (some (some (.inl (-1))), σ4))
    else (
      if p1 = p2 then (
        some (some (some (.inl (-1))), σ4))
      else (
        let σ6 := st σ4 (10, 0, 0, 0) 4 (nI 0);
        if (nI 1396) + p1 < 0 ∨ 1432 ≤ ((nI 1396) + p1).toNatClampNeg then none else (
        bdV (e_X10_tell ((σ6.1 (30, 0, 0, 0) (((nI 1396) + p1).toNatClampNeg)).toInt64) σ6) (fun σ7 =>
        if ((nI 1360) + ((nI 6) * p1)) + p2 < 0 ∨ 1432 ≤ (((nI 1360) + ((nI 6) * p1)) + p2).toNatClampNeg then none else (
        some (some (some (.inl (σ7.1 (30, 0, 0, 0) ((((nI 1360) + ((nI 6) * p1)) + p2).toNatClampNeg)))), σ7))))))))) := (EvOf_eq mcode _).trans rfl
set_option maxRecDepth 100000 in
set_option maxHeartbeats 4000000 in
theorem q_X10_even (σ : mS) : e_X10_even σ =
  let σ1 := st σ (10, 0, 0, 0) 5 (nI 0);
  b_X10_even_12 (lN 0) (lN 0) (nI 0) σ1 := (EvOf_eq mcode _).trans rfl
set_option maxRecDepth 100000 in
set_option maxHeartbeats 4000000 in
theorem q_X10_even_12 (y1 : Int64) (y3 : Int64) (x5 : Int32) (σ : mS) : b_X10_even_12 y1 y3 x5 σ =
  if nI 0 < 0 ∨ 1432 ≤ (nI 0).toNatClampNeg then none else (
  if x5 < σ.1 (30, 0, 0, 0) ((nI 0).toNatClampNeg) then (
    if ((nI 1275) + ((nI 9) * x5)) + (nI 1) < 0 ∨ 1432 ≤ (((nI 1275) + ((nI 9) * x5)) + (nI 1)).toNatClampNeg then none else (
    b_X10_even_12 (y1 + ((σ.1 (30, 0, 0, 0) ((((nI 1275) + ((nI 9) * x5)) + (nI 1)).toNatClampNeg)).toInt64)) (y3 + (((σ.1 (30, 0, 0, 0) ((((nI 1275) + ((nI 9) * x5)) + (nI 1)).toNatClampNeg)).toInt64) * ((σ.1 (30, 0, 0, 0) ((((nI 1275) + ((nI 9) * x5)) + (nI 1)).toNatClampNeg)).toInt64))) (x5 + 1) σ))
  else (
    if lg_cmp y1 (lN 0) = 0 then (
      some (some (some (.inl (-2))), σ))
    else (
      if nI 0 < 0 ∨ 1432 ≤ (nI 0).toNatClampNeg then none else (
      bdL (e_X10_commonLong (y1 * y1) (((σ.1 (30, 0, 0, 0) ((nI 0).toNatClampNeg)).toInt64) * y3) σ) (fun v2 σ1 =>
      let σ3 := st σ1 (10, 0, 0, 0) 4 (nI 0);
      if v2 = 0 then none else (
      bdV (e_X10_tell ((y1 * y1) / v2) σ3) (fun σ4 =>
      if nI 0 < 0 ∨ 1432 ≤ (nI 0).toNatClampNeg then none else (
      if v2 = 0 then none else (
      bdV (e_X10_tell ((((σ4.1 (30, 0, 0, 0) ((nI 0).toNatClampNeg)).toInt64) * y3) / v2) σ4) (fun σ5 =>
      some (some (some (.inl (nI 0))), σ5))))))))))) := (EvOf_eq mcode _).trans rfl
set_option maxRecDepth 100000 in
set_option maxHeartbeats 4000000 in
theorem q_X10_busy (σ : mS) : e_X10_busy σ =
  let σ1 := st σ (10, 0, 0, 0) 5 (nI 0);
  let σ2 := st σ1 (10, 0, 0, 0) 4 (nI 0);
  if nI 1334 < 0 ∨ 1432 ≤ (nI 1334).toNatClampNeg then none else (
  bdV (e_X10_tell ((σ2.1 (30, 0, 0, 0) ((nI 1334).toNatClampNeg)).toInt64) σ2) (fun σ3 =>
  if nI 1335 < 0 ∨ 1432 ≤ (nI 1335).toNatClampNeg then none else (
  bdV (e_X10_tell ((σ3.1 (30, 0, 0, 0) ((nI 1335).toNatClampNeg)).toInt64) σ3) (fun σ4 =>
  if nI 1333 < 0 ∨ 1432 ≤ (nI 1333).toNatClampNeg then none else (
  some (some (some (.inl (σ4.1 (30, 0, 0, 0) ((nI 1333).toNatClampNeg)))), σ4)))))) := (EvOf_eq mcode _).trans rfl
set_option maxRecDepth 100000 in
set_option maxHeartbeats 4000000 in
theorem q_X10_power (p0 : Int32) (p1 : Int32) (σ : mS) : e_X10_power p0 p1 σ =
  b_X10_power_4 p0 p1 (nI 1) (nI 0) σ := (EvOf_eq mcode _).trans rfl
set_option maxRecDepth 100000 in
set_option maxHeartbeats 4000000 in
theorem q_X10_power_4 (x0 : Int32) (x1 : Int32) (x2 : Int32) (x3 : Int32) (σ : mS) : b_X10_power_4 x0 x1 x2 x3 σ =
  if x3 < x1 then (
    b_X10_power_4 x0 x1 (x2 * x0) (x3 + 1) σ)
  else (
    some (some (some (.inl x2)), σ)) := (EvOf_eq mcode _).trans rfl
set_option maxRecDepth 100000 in
set_option maxHeartbeats 4000000 in
theorem q_X10_waysAlone (p0 : Int32) (p1 : Int32) (σ : mS) : e_X10_waysAlone p0 p1 σ =
  b_X10_waysAlone_4 p0 p1 (nI 0) (nI 0) σ := (EvOf_eq mcode _).trans rfl
set_option maxRecDepth 100000 in
set_option maxHeartbeats 4000000 in
theorem q_X10_waysAlone_4 (x0 : Int32) (x1 : Int32) (x2 : Int32) (x3 : Int32) (σ : mS) : b_X10_waysAlone_4 x0 x1 x2 x3 σ =
  if x1 < x3 then (
    some (some (some (.inl (x0 * x2))), σ))
  else (
    bdI (e_X10_power (x1 - x3) (x0 - (nI 1)) σ) (fun v2 σ1 =>
    b_X10_waysAlone_4 x0 x1 (x2 + v2) (x3 + 1) σ1)) := (EvOf_eq mcode _).trans rfl
set_option maxRecDepth 100000 in
set_option maxHeartbeats 4000000 in
theorem q_X10_odds (p1 : Int32) (p2 : Int32) (σ : mS) : e_X10_odds p1 p2 σ =
  let σ1 := st σ (10, 0, 0, 0) 5 (nI 0);
  bdI (e_X10_in p1 (nI 1) (nI 5) σ1) (fun v3 σ2 =>
  if v3 = 0 then (
    some (some (some (.inl (-1))), σ2))
  else (
    bdI (e_X10_in p2 (nI 0) (nI 31) σ2) (fun v5 σ4 =>
    if v5 = 0 then (
      some (some (some (.inl (-1))), σ4))
    else (
      bdI (e_X10_waysAlone p1 p2 σ4) (fun v7 σ6 =>
      bdI (e_X10_power (p2 + (nI 1)) p1 σ6) (fun v9 σ8 =>
      bdI (e_X10_common v7 v9 σ8) (fun v11 σ10 =>
      let σ12 := st σ10 (10, 0, 0, 0) 4 (nI 0);
      if v11 = 0 then none else (
      bdV (e_X10_tell ((v7 / v11).toInt64) σ12) (fun σ13 =>
      if v11 = 0 then none else (
      bdV (e_X10_tell ((v9 / v11).toInt64) σ13) (fun σ14 =>
      some (some (some (.inl (nI 0))), σ14)))))))))))) := (EvOf_eq mcode _).trans rfl
set_option maxRecDepth 100000 in
set_option maxHeartbeats 4000000 in
theorem q_X10_window (p1 : Int32) (p2 : Int32) (σ : mS) : e_X10_window p1 p2 σ =
  let σ1 := st σ (10, 0, 0, 0) 5 (nI 0);
  bdI (e_X10_in p1 (nI 1) (nI 5) σ1) (fun v3 σ2 =>
  if v3 = 0 then (
    some (some (some (.inl (-1))), σ2))
  else (
    bdI (e_X10_in p2 (nI 0) (nI 100) σ2) (fun v5 σ4 =>
    if v5 = 0 then (
      some (some (some (.inl (-1))), σ4))
    else (
      b_X10_window_28 p1 p2 (nI 0) σ4)))) := (EvOf_eq mcode _).trans rfl
set_option maxRecDepth 100000 in
set_option maxHeartbeats 4000000 in
theorem q_X10_window_28 (x1 : Int32) (x2 : Int32) (x3 : Int32) (σ : mS) : b_X10_window_28 x1 x2 x3 σ =
  if nI 31 < x3 then (
    some (some (some (.inl (-2))), σ))
  else (
    bdI (e_X10_waysAlone x1 x3 σ) (fun v2 σ1 =>
    bdI (e_X10_power (x3 + (nI 1)) x1 σ1) (fun v4 σ3 =>
    if lg_cmp ((lN 100) * ((v2).toInt64)) (((x2).toInt64) * ((v4).toInt64)) < 0 then (
      b_X10_window_28 x1 x2 (x3 + 1) σ3)
    else (
      some (some (some (.inl x3)), σ3))))) := (EvOf_eq mcode _).trans rfl
set_option maxRecDepth 100000 in
set_option maxHeartbeats 4000000 in
theorem q_X10_layAside (σ : mS) : e_X10_layAside σ =
  b_X10_layAside_2 (nI 0) σ := (EvOf_eq mcode _).trans rfl
set_option maxRecDepth 100000 in
set_option maxHeartbeats 4000000 in
theorem q_X10_layAside_2 (x1 : Int32) (σ : mS) : b_X10_layAside_2 x1 σ =
  if x1 < nI 1432 then (
    if x1 < 0 ∨ 1432 ≤ x1.toNatClampNeg then none else (
    if x1 < 0 ∨ 1432 ≤ x1.toNatClampNeg then none else (
    let σ1 := st σ (36, 0, 0, 0) x1.toNatClampNeg (σ.1 (30, 0, 0, 0) x1.toNatClampNeg);
    b_X10_layAside_2 (x1 + 1) σ1)))
  else (
    some (some none, σ)) := (EvOf_eq mcode _).trans rfl
set_option maxRecDepth 100000 in
set_option maxHeartbeats 4000000 in
theorem q_X10_comesBack (σ : mS) : e_X10_comesBack σ =
  b_X10_comesBack_2 (nI 0) σ := (EvOf_eq mcode _).trans rfl
set_option maxRecDepth 100000 in
set_option maxHeartbeats 4000000 in
theorem q_X10_comesBack_2 (x1 : Int32) (σ : mS) : b_X10_comesBack_2 x1 σ =
  if x1 < nI 1432 then (
    if x1 < 0 ∨ 1432 ≤ x1.toNatClampNeg then none else (
    if x1 < 0 ∨ 1432 ≤ x1.toNatClampNeg then none else (
    let σ1 := st σ (30, 0, 0, 0) x1.toNatClampNeg (σ.1 (36, 0, 0, 0) x1.toNatClampNeg);
    b_X10_comesBack_2 (x1 + 1) σ1)))
  else (
    some (some none, σ)) := (EvOf_eq mcode _).trans rfl
set_option maxRecDepth 100000 in
set_option maxHeartbeats 4000000 in
theorem q_X10_ahead (p1 : Int32) (p2 : Int32) (σ : mS) : e_X10_ahead p1 p2 σ =
  let σ1 := st σ (10, 0, 0, 0) 5 (nI 0);
  bdI (e_X10_in p1 (nI 1) (nI 60) σ1) (fun v3 σ2 =>
  if v3 = 0 then (
    some (some (some (.inl (-1))), σ2))
  else (
    bdI (e_X10_in p2 (nI 0) (nI 4) σ2) (fun v5 σ4 =>
    if v5 = 0 then (
      some (some (some (.inl (-1))), σ4))
    else (
      bdV (e_X10_layAside σ4) (fun σ6 =>
      bdV (e_X10_goSlots p1 σ6) (fun σ7 =>
      if p2 = 0 then (
        if nI 1336 < 0 ∨ 1432 ≤ (nI 1336).toNatClampNeg then none else (
        if nI 1336 < 0 ∨ 1432 ≤ (nI 1336).toNatClampNeg then none else (
        bdV (e_X10_comesBack σ7) (fun σ8 =>
        some (some (some (.inl ((σ7.1 (30, 0, 0, 0) ((nI 1336).toNatClampNeg)) - (σ7.1 (36, 0, 0, 0) ((nI 1336).toNatClampNeg))))), σ8)))))
      else (
        if p2 = nI 1 then (
          if nI 1337 < 0 ∨ 1432 ≤ (nI 1337).toNatClampNeg then none else (
          if nI 1337 < 0 ∨ 1432 ≤ (nI 1337).toNatClampNeg then none else (
          bdV (e_X10_comesBack σ7) (fun σ9 =>
          some (some (some (.inl ((σ7.1 (30, 0, 0, 0) ((nI 1337).toNatClampNeg)) - (σ7.1 (36, 0, 0, 0) ((nI 1337).toNatClampNeg))))), σ9)))))
        else (
          if p2 = nI 2 then (
            if nI 1338 < 0 ∨ 1432 ≤ (nI 1338).toNatClampNeg then none else (
            if nI 1338 < 0 ∨ 1432 ≤ (nI 1338).toNatClampNeg then none else (
            bdV (e_X10_comesBack σ7) (fun σ10 =>
            some (some (some (.inl ((σ7.1 (30, 0, 0, 0) ((nI 1338).toNatClampNeg)) - (σ7.1 (36, 0, 0, 0) ((nI 1338).toNatClampNeg))))), σ10)))))
          else (
            if p2 = nI 3 then (
              bdI (e_X10_allWaiting σ7) (fun v12 σ11 =>
              bdV (e_X10_comesBack σ11) (fun σ13 =>
              some (some (some (.inl v12)), σ13))))
            else (
              if nI 1329 < 0 ∨ 1432 ≤ (nI 1329).toNatClampNeg then none else (
              bdV (e_X10_comesBack σ7) (fun σ14 =>
              some (some (some (.inl (σ7.1 (30, 0, 0, 0) ((nI 1329).toNatClampNeg)))), σ14))))))))))))) := (EvOf_eq mcode _).trans rfl
set_option maxRecDepth 100000 in
set_option maxHeartbeats 4000000 in
theorem q_X10_isQuiet (σ : mS) : e_X10_isQuiet σ =
  bdI (e_X10_allWaiting σ) (fun v2 σ1 =>
  if v2 = 0 then (
    bdI (e_X10_goesOn σ1) (fun v4 σ3 =>
    if v4 = 0 then (
      if nI 1 = 0 ∨ nI 1 = 1 then some (some (some (.inl (nI 1))), σ3) else none)
    else (
      if nI 0 = 0 ∨ nI 0 = 1 then some (some (some (.inl (nI 0))), σ3) else none)))
  else (
    if nI 0 = 0 ∨ nI 0 = 1 then some (some (some (.inl (nI 0))), σ1) else none)) := (EvOf_eq mcode _).trans rfl
set_option maxRecDepth 100000 in
set_option maxHeartbeats 4000000 in
theorem q_X10_quiet (σ : mS) : e_X10_quiet σ =
  let σ1 := st σ (10, 0, 0, 0) 5 (nI 0);
  bdV (e_X10_layAside σ1) (fun σ2 =>
  b_X10_quiet_11 (nI 0) σ2) := (EvOf_eq mcode _).trans rfl
set_option maxRecDepth 100000 in
set_option maxHeartbeats 4000000 in
theorem q_X10_quiet_11 (x1 : Int32) (σ : mS) : b_X10_quiet_11 x1 σ =
  if x1 < nI 99 then (
    bdI (e_X10_isQuiet σ) (fun v2 σ1 =>
    if v2 = 0 then (
      bdV (e_X10_slot σ1) (fun σ3 =>
      b_X10_quiet_11 (x1 + 1) σ3))
    else (
      bdI (e_X10_isQuiet σ1) (fun v5 σ4 =>
      if nI 1336 < 0 ∨ 1432 ≤ (nI 1336).toNatClampNeg then none else (
      if nI 1336 < 0 ∨ 1432 ≤ (nI 1336).toNatClampNeg then none else (
      bdV (e_X10_comesBack σ4) (fun σ6 =>
      if v5 = 0 then (
        some (some (some (.inl (-2))), σ6))
      else (
        let σ7 := st σ6 (10, 0, 0, 0) 4 (nI 0);
        bdV (e_X10_tell (((σ4.1 (30, 0, 0, 0) ((nI 1336).toNatClampNeg)) - (σ4.1 (36, 0, 0, 0) ((nI 1336).toNatClampNeg))).toInt64) σ7) (fun σ8 =>
        some (some (some (.inl x1)), σ8))))))))))
  else (
    bdI (e_X10_isQuiet σ) (fun v10 σ9 =>
    if nI 1336 < 0 ∨ 1432 ≤ (nI 1336).toNatClampNeg then none else (
    if nI 1336 < 0 ∨ 1432 ≤ (nI 1336).toNatClampNeg then none else (
    bdV (e_X10_comesBack σ9) (fun σ11 =>
    if v10 = 0 then (
      some (some (some (.inl (-2))), σ11))
    else (
      let σ12 := st σ11 (10, 0, 0, 0) 4 (nI 0);
      bdV (e_X10_tell (((σ9.1 (30, 0, 0, 0) ((nI 1336).toNatClampNeg)) - (σ9.1 (36, 0, 0, 0) ((nI 1336).toNatClampNeg))).toInt64) σ12) (fun σ13 =>
      some (some (some (.inl x1)), σ13)))))))) := (EvOf_eq mcode _).trans rfl
set_option maxRecDepth 100000 in
set_option maxHeartbeats 4000000 in
theorem q_X10_next (σ : mS) : e_X10_next σ =
  let σ1 := st σ (10, 0, 0, 0) 5 (nI 0);
  bdV (e_X10_layAside σ1) (fun σ2 =>
  b_X10_next_13 (nI 0) (nI 0) σ2) := (EvOf_eq mcode _).trans rfl
set_option maxRecDepth 100000 in
set_option maxHeartbeats 4000000 in
theorem q_X10_next_13 (x1 : Int32) (x2 : Int32) (σ : mS) : b_X10_next_13 x1 x2 σ =
  if x1 < nI 99 then (
    if x2 = 0 then (
      bdV (e_X10_slot σ) (fun σ1 =>
      if nI 1341 < 0 ∨ 1432 ≤ (nI 1341).toNatClampNeg then none else (
      b_X10_next_13 (x1 + 1) (σ1.1 (30, 0, 0, 0) ((nI 1341).toNatClampNeg)) σ1)))
    else (
      bdV (e_X10_comesBack σ) (fun σ2 =>
      if x2 = 0 then (
        some (some (some (.inl (-2))), σ2))
      else (
        let σ3 := st σ2 (10, 0, 0, 0) 4 (nI 0);
        bdV (e_X10_tell ((x2).toInt64) σ3) (fun σ4 =>
        some (some (some (.inl (x1 - (nI 1)))), σ4))))))
  else (
    bdV (e_X10_comesBack σ) (fun σ5 =>
    if x2 = 0 then (
      some (some (some (.inl (-2))), σ5))
    else (
      let σ6 := st σ5 (10, 0, 0, 0) 4 (nI 0);
      bdV (e_X10_tell ((x2).toInt64) σ6) (fun σ7 =>
      some (some (some (.inl (x1 - (nI 1)))), σ7))))) := (EvOf_eq mcode _).trans rfl
set_option maxRecDepth 100000 in
set_option maxHeartbeats 4000000 in
theorem q_X10_takes (p1 : Int32) (p2 : Int32) (σ : mS) : e_X10_takes p1 p2 σ =
  bdV (e_X10_layAside σ) (fun σ1 =>
  if nI 1340 < 0 ∨ 1432 ≤ (nI 1340).toNatClampNeg then none else (
  let σ2 := st σ1 (30, 0, 0, 0) ((nI 1340).toNatClampNeg) (nI 0);
  bdV (e_X10_put p1 (nI 0) p2 (nI 1) (nI 1) σ2) (fun σ3 =>
  b_X10_takes_24 (nI 0) σ3))) := (EvOf_eq mcode _).trans rfl
set_option maxRecDepth 100000 in
set_option maxHeartbeats 4000000 in
theorem q_X10_takes_24 (x3 : Int32) (σ : mS) : b_X10_takes_24 x3 σ =
  if x3 < nI 99 then (
    if nI 1340 < 0 ∨ 1432 ≤ (nI 1340).toNatClampNeg then none else (
    if σ.1 (30, 0, 0, 0) ((nI 1340).toNatClampNeg) = 0 then (
      bdV (e_X10_slot σ) (fun σ1 =>
      b_X10_takes_24 (x3 + 1) σ1))
    else (
      if nI 1340 < 0 ∨ 1432 ≤ (nI 1340).toNatClampNeg then none else (
      if σ.1 (30, 0, 0, 0) ((nI 1340).toNatClampNeg) = nI 1 then (
        bdV (e_X10_comesBack σ) (fun σ2 =>
        if nI 1 = 0 then (
          some (some (some (.inl (nI 0))), σ2))
        else (
          some (some (some (.inl x3)), σ2))))
      else (
        bdV (e_X10_comesBack σ) (fun σ3 =>
        if nI 0 = 0 then (
          some (some (some (.inl (nI 0))), σ3))
        else (
          some (some (some (.inl x3)), σ3))))))))
  else (
    if nI 1340 < 0 ∨ 1432 ≤ (nI 1340).toNatClampNeg then none else (
    if σ.1 (30, 0, 0, 0) ((nI 1340).toNatClampNeg) = nI 1 then (
      bdV (e_X10_comesBack σ) (fun σ4 =>
      if nI 1 = 0 then (
        some (some (some (.inl (nI 0))), σ4))
      else (
        some (some (some (.inl x3)), σ4))))
    else (
      bdV (e_X10_comesBack σ) (fun σ5 =>
      if nI 0 = 0 then (
        some (some (some (.inl (nI 0))), σ5))
      else (
        some (some (some (.inl x3)), σ5)))))) := (EvOf_eq mcode _).trans rfl
set_option maxRecDepth 100000 in
set_option maxHeartbeats 4000000 in
theorem q_X10_soonest (p1 : Int32) (σ : mS) : e_X10_soonest p1 σ =
  let σ1 := st σ (10, 0, 0, 0) 5 (nI 0);
  bdI (e_X10_isStation p1 σ1) (fun v3 σ2 =>
  if v3 = 0 then (
    some (some (some (.inl (-1))), σ2))
  else (
    b_X10_soonest_22 p1 (-1) (nI 0) (nI 0) σ2)) := (EvOf_eq mcode _).trans rfl
set_option maxRecDepth 100000 in
set_option maxHeartbeats 4000000 in
theorem q_X10_soonest_22 (x1 : Int32) (x2 : Int32) (x3 : Int32) (x4 : Int32) (σ : mS) : b_X10_soonest_22 x1 x2 x3 x4 σ =
  if nI 0 < 0 ∨ 1432 ≤ (nI 0).toNatClampNeg then none else (
  if x4 < σ.1 (30, 0, 0, 0) ((nI 0).toNatClampNeg) then (
    bdI (e_X10_hears x4 x1 σ) (fun v2 σ1 =>
    if v2 = 0 then (
      b_X10_soonest_22 x1 x2 x3 (x4 + 1) σ1)
    else (
      bdI (e_X10_at x4 (nI 0) σ1) (fun v4 σ3 =>
      if (nI 147) + v4 < 0 ∨ 1432 ≤ ((nI 147) + v4).toNatClampNeg then none else (
      if σ3.1 (30, 0, 0, 0) (((nI 147) + v4).toNatClampNeg) = nI 8 then (
        b_X10_soonest_22 x1 x2 x3 (x4 + 1) σ3)
      else (
        bdI (e_X10_takes x4 x1 σ3) (fun v6 σ5 =>
        if v6 = 0 then (
          b_X10_soonest_22 x1 x2 x3 (x4 + 1) σ5)
        else (
          if x2 = (-1) then (
            b_X10_soonest_22 x1 x4 v6 (x4 + 1) σ5)
          else (
            if v6 < x3 then (
              b_X10_soonest_22 x1 x4 v6 (x4 + 1) σ5)
            else (
              b_X10_soonest_22 x1 x2 x3 (x4 + 1) σ5))))))))))
  else (
    if x2 = (-1) then (
      some (some (some (.inl (-2))), σ))
    else (
      let σ7 := st σ (10, 0, 0, 0) 4 (nI 0);
      bdV (e_X10_tell ((x3).toInt64) σ7) (fun σ8 =>
      some (some (some (.inl x2)), σ8))))) := (EvOf_eq mcode _).trans rfl
set_option maxRecDepth 100000 in
set_option maxHeartbeats 4000000 in
theorem q_X10_readAct (p1 : Int32) (σ : mS) : e_X10_readAct p1 σ =
  bdI (e_X10_here σ) (fun v2 σ1 =>
  if v2 = nI 102 then (
    let σ3 := st σ1 (10, 0, 0, 0) 7 ((σ1.1 (10, 0, 0, 0) 7) + (nI 1));
    if p1 < 0 ∨ 400 ≤ p1.toNatClampNeg then none else (
    let σ4 := st σ3 (37, 0, 0, 0) p1.toNatClampNeg v2;
    if v2 = nI 115 then (
      bdI (e_X10_twoDigits σ4) (fun v6 σ5 =>
      if p1 + (nI 1) < 0 ∨ 400 ≤ (p1 + (nI 1)).toNatClampNeg then none else (
      let σ7 := st σ5 (37, 0, 0, 0) ((p1 + (nI 1)).toNatClampNeg) v6;
      b_X10_readAct_67 p1 v2 σ7)))
    else (
      b_X10_readAct_67 p1 v2 σ4)))
  else (
    if v2 = nI 115 then (
      let σ8 := st σ1 (10, 0, 0, 0) 7 ((σ1.1 (10, 0, 0, 0) 7) + (nI 1));
      if p1 < 0 ∨ 400 ≤ p1.toNatClampNeg then none else (
      let σ9 := st σ8 (37, 0, 0, 0) p1.toNatClampNeg v2;
      if v2 = nI 115 then (
        bdI (e_X10_twoDigits σ9) (fun v11 σ10 =>
        if p1 + (nI 1) < 0 ∨ 400 ≤ (p1 + (nI 1)).toNatClampNeg then none else (
        let σ12 := st σ10 (37, 0, 0, 0) ((p1 + (nI 1)).toNatClampNeg) v11;
        b_X10_readAct_67 p1 v2 σ12)))
      else (
        b_X10_readAct_67 p1 v2 σ9)))
    else (
      if v2 = nI 100 then (
        let σ13 := st σ1 (10, 0, 0, 0) 7 ((σ1.1 (10, 0, 0, 0) 7) + (nI 1));
        if p1 < 0 ∨ 400 ≤ p1.toNatClampNeg then none else (
        let σ14 := st σ13 (37, 0, 0, 0) p1.toNatClampNeg v2;
        if v2 = nI 115 then (
          bdI (e_X10_twoDigits σ14) (fun v16 σ15 =>
          if p1 + (nI 1) < 0 ∨ 400 ≤ (p1 + (nI 1)).toNatClampNeg then none else (
          let σ17 := st σ15 (37, 0, 0, 0) ((p1 + (nI 1)).toNatClampNeg) v16;
          b_X10_readAct_67 p1 v2 σ17)))
        else (
          b_X10_readAct_67 p1 v2 σ14)))
      else (
        bdV (e_X10_fault (σ1.1 (10, 0, 0, 0) 7) σ1) (fun σ18 =>
        some (some none, σ18)))))) := (EvOf_eq mcode _).trans rfl
set_option maxRecDepth 100000 in
set_option maxHeartbeats 4000000 in
theorem q_X10_readAct_67 (x1 : Int32) (x2 : Int32) (σ : mS) : b_X10_readAct_67 x1 x2 σ =
  if x2 = nI 102 then (
    bdI (e_X10_oneOf (nI 97) (nI 6) σ) (fun v2 σ1 =>
    if x1 + (nI 1) < 0 ∨ 400 ≤ (x1 + (nI 1)).toNatClampNeg then none else (
    let σ3 := st σ1 (37, 0, 0, 0) ((x1 + (nI 1)).toNatClampNeg) v2;
    bdI (e_X10_oneOf (nI 48) (nI 4) σ3) (fun v5 σ4 =>
    if x1 + (nI 2) < 0 ∨ 400 ≤ (x1 + (nI 2)).toNatClampNeg then none else (
    let σ6 := st σ4 (37, 0, 0, 0) ((x1 + (nI 2)).toNatClampNeg) v5;
    bdI (e_X10_oneOf (nI 97) (nI 6) σ6) (fun v8 σ7 =>
    if x1 + (nI 3) < 0 ∨ 400 ≤ (x1 + (nI 3)).toNatClampNeg then none else (
    let σ9 := st σ7 (37, 0, 0, 0) ((x1 + (nI 3)).toNatClampNeg) v8;
    bdI (e_X10_oneOf (nI 49) (nI 9) σ9) (fun v11 σ10 =>
    if x1 + (nI 4) < 0 ∨ 400 ≤ (x1 + (nI 4)).toNatClampNeg then none else (
    let σ12 := st σ10 (37, 0, 0, 0) ((x1 + (nI 4)).toNatClampNeg) (v11 + (nI 1));
    some (some none, σ12))))))))))
  else (
    some (some none, σ)) := (EvOf_eq mcode _).trans rfl
set_option maxRecDepth 100000 in
set_option maxHeartbeats 4000000 in
theorem q_X10_act (p1 : Int32) (σ : mS) : e_X10_act p1 σ =
  if p1 < 0 ∨ 400 ≤ p1.toNatClampNeg then none else (
  if σ.1 (37, 0, 0, 0) p1.toNatClampNeg = nI 100 then (
    bdI (e_X10_drawAll σ) (fun v2 σ1 =>
    if nI 1 = 0 ∨ nI 1 = 1 then some (some (some (.inl (nI 1))), σ1) else none))
  else (
    if p1 < 0 ∨ 400 ≤ p1.toNatClampNeg then none else (
    if σ.1 (37, 0, 0, 0) p1.toNatClampNeg = nI 115 then (
      if p1 + (nI 1) < 0 ∨ 400 ≤ (p1 + (nI 1)).toNatClampNeg then none else (
      bdI (e_X10_in (σ.1 (37, 0, 0, 0) ((p1 + (nI 1)).toNatClampNeg)) (nI 1) (nI 60) σ) (fun v4 σ3 =>
      if v4 = 0 then (
        if nI 0 = 0 ∨ nI 0 = 1 then some (some (some (.inl (nI 0))), σ3) else none)
      else (
        if p1 + (nI 1) < 0 ∨ 400 ≤ (p1 + (nI 1)).toNatClampNeg then none else (
        bdV (e_X10_goSlots (σ3.1 (37, 0, 0, 0) ((p1 + (nI 1)).toNatClampNeg)) σ3) (fun σ5 =>
        if nI 1 = 0 ∨ nI 1 = 1 then some (some (some (.inl (nI 1))), σ5) else none))))))
    else (
      if p1 + (nI 1) < 0 ∨ 400 ≤ (p1 + (nI 1)).toNatClampNeg then none else (
      if p1 + (nI 2) < 0 ∨ 400 ≤ (p1 + (nI 2)).toNatClampNeg then none else (
      if p1 + (nI 3) < 0 ∨ 400 ≤ (p1 + (nI 3)).toNatClampNeg then none else (
      if p1 + (nI 4) < 0 ∨ 400 ≤ (p1 + (nI 4)).toNatClampNeg then none else (
      bdI (e_X10_refusesOffer (σ.1 (37, 0, 0, 0) ((p1 + (nI 1)).toNatClampNeg)) (σ.1 (37, 0, 0, 0) ((p1 + (nI 2)).toNatClampNeg)) (σ.1 (37, 0, 0, 0) ((p1 + (nI 3)).toNatClampNeg)) (σ.1 (37, 0, 0, 0) ((p1 + (nI 4)).toNatClampNeg)) σ) (fun v7 σ6 =>
      if v7 < 0 then (
        if nI 0 = 0 ∨ nI 0 = 1 then some (some (some (.inl (nI 0))), σ6) else none)
      else (
        if p1 + (nI 1) < 0 ∨ 400 ≤ (p1 + (nI 1)).toNatClampNeg then none else (
        if p1 + (nI 2) < 0 ∨ 400 ≤ (p1 + (nI 2)).toNatClampNeg then none else (
        if p1 + (nI 3) < 0 ∨ 400 ≤ (p1 + (nI 3)).toNatClampNeg then none else (
        if p1 + (nI 4) < 0 ∨ 400 ≤ (p1 + (nI 4)).toNatClampNeg then none else (
        bdV (e_X10_put (σ6.1 (37, 0, 0, 0) ((p1 + (nI 1)).toNatClampNeg)) (σ6.1 (37, 0, 0, 0) ((p1 + (nI 2)).toNatClampNeg)) (σ6.1 (37, 0, 0, 0) ((p1 + (nI 3)).toNatClampNeg)) (σ6.1 (37, 0, 0, 0) ((p1 + (nI 4)).toNatClampNeg)) (nI 0) σ6) (fun σ8 =>
        if nI 1 = 0 ∨ nI 1 = 1 then some (some (some (.inl (nI 1))), σ8) else none))))))))))))))) := (EvOf_eq mcode _).trans rfl
set_option maxRecDepth 100000 in
set_option maxHeartbeats 4000000 in
theorem q_X10_day (σ : mS) : e_X10_day σ =
  let σ1 := st σ (10, 0, 0, 0) 5 (nI 0);
  bdV (e_X10_begin σ1) (fun σ2 =>
  b_X10_day_11 (nI 0) σ2) := (EvOf_eq mcode _).trans rfl
set_option maxRecDepth 100000 in
set_option maxHeartbeats 4000000 in
theorem q_X10_day_11 (x1 : Int32) (σ : mS) : b_X10_day_11 x1 σ =
  bdI (e_X10_fine σ) (fun v2 σ1 =>
  if v2 = 0 then (
    bdI (e_X10_wasRight σ1) (fun v4 σ3 =>
    if v4 = 0 then (
      some (some (some (.inl ((-1) - (σ3.1 (10, 0, 0, 0) 8)))), σ3))
    else (
      b_X10_day_58 x1 (nI 0) σ3)))
  else (
    if σ1.1 (10, 0, 0, 0) 7 < σ1.1 (10, 0, 0, 0) 6 then (
      bdV (e_X10_readAct ((nI 5) * x1) σ1) (fun σ5 =>
      b_X10_day_11 (x1 + 1) σ5))
    else (
      bdI (e_X10_wasRight σ1) (fun v7 σ6 =>
      if v7 = 0 then (
        some (some (some (.inl ((-1) - (σ6.1 (10, 0, 0, 0) 8)))), σ6))
      else (
        b_X10_day_58 x1 (nI 0) σ6))))) := (EvOf_eq mcode _).trans rfl
set_option maxRecDepth 100000 in
set_option maxHeartbeats 4000000 in
theorem q_X10_day_58 (x1 : Int32) (x2 : Int32) (σ : mS) : b_X10_day_58 x1 x2 σ =
  if x2 < nI 1432 then (
    if x2 < 0 ∨ 1432 ≤ x2.toNatClampNeg then none else (
    if x2 < 0 ∨ 1432 ≤ x2.toNatClampNeg then none else (
    let σ1 := st σ (39, 0, 0, 0) x2.toNatClampNeg (σ.1 (30, 0, 0, 0) x2.toNatClampNeg);
    b_X10_day_58 x1 (x2 + 1) σ1)))
  else (
    if nI 1336 < 0 ∨ 1432 ≤ (nI 1336).toNatClampNeg then none else (
    b_X10_day_94 x1 (σ.1 (30, 0, 0, 0) ((nI 1336).toNatClampNeg)) (nI 0) σ)) := (EvOf_eq mcode _).trans rfl
set_option maxRecDepth 100000 in
set_option maxHeartbeats 4000000 in
theorem q_X10_day_94 (x1 : Int32) (x2 : Int32) (x3 : Int32) (σ : mS) : b_X10_day_94 x1 x2 x3 σ =
  if x3 < x1 then (
    bdI (e_X10_act ((nI 5) * x3) σ) (fun v2 σ1 =>
    if v2 = 0 then (
      if 0 < x3 then (
        bdV (e_X10_note σ1) (fun σ3 =>
        let σ4 := st σ3 (10, 0, 0, 0) 4 (nI 0);
        if x3 < x1 then (
          bdV (e_X10_tell (lN 1) σ4) (fun σ5 =>
          if nI 1336 < 0 ∨ 1432 ≤ (nI 1336).toNatClampNeg then none else (
          bdV (e_X10_tell (((σ5.1 (30, 0, 0, 0) ((nI 1336).toNatClampNeg)) - x2).toInt64) σ5) (fun σ6 =>
          some (some (some (.inl x3)), σ6)))))
        else (
          bdV (e_X10_tell (lN 0) σ4) (fun σ7 =>
          if nI 1336 < 0 ∨ 1432 ≤ (nI 1336).toNatClampNeg then none else (
          bdV (e_X10_tell (((σ7.1 (30, 0, 0, 0) ((nI 1336).toNatClampNeg)) - x2).toInt64) σ7) (fun σ8 =>
          some (some (some (.inl x3)), σ8)))))))
      else (
        let σ9 := st σ1 (10, 0, 0, 0) 4 (nI 0);
        if x3 < x1 then (
          bdV (e_X10_tell (lN 1) σ9) (fun σ10 =>
          if nI 1336 < 0 ∨ 1432 ≤ (nI 1336).toNatClampNeg then none else (
          bdV (e_X10_tell (((σ10.1 (30, 0, 0, 0) ((nI 1336).toNatClampNeg)) - x2).toInt64) σ10) (fun σ11 =>
          some (some (some (.inl x3)), σ11)))))
        else (
          bdV (e_X10_tell (lN 0) σ9) (fun σ12 =>
          if nI 1336 < 0 ∨ 1432 ≤ (nI 1336).toNatClampNeg then none else (
          bdV (e_X10_tell (((σ12.1 (30, 0, 0, 0) ((nI 1336).toNatClampNeg)) - x2).toInt64) σ12) (fun σ13 =>
          some (some (some (.inl x3)), σ13)))))))
    else (
      b_X10_day_94 x1 x2 (x3 + 1) σ1)))
  else (
    if 0 < x3 then (
      bdV (e_X10_note σ) (fun σ14 =>
      let σ15 := st σ14 (10, 0, 0, 0) 4 (nI 0);
      if x3 < x1 then (
        bdV (e_X10_tell (lN 1) σ15) (fun σ16 =>
        if nI 1336 < 0 ∨ 1432 ≤ (nI 1336).toNatClampNeg then none else (
        bdV (e_X10_tell (((σ16.1 (30, 0, 0, 0) ((nI 1336).toNatClampNeg)) - x2).toInt64) σ16) (fun σ17 =>
        some (some (some (.inl x3)), σ17)))))
      else (
        bdV (e_X10_tell (lN 0) σ15) (fun σ18 =>
        if nI 1336 < 0 ∨ 1432 ≤ (nI 1336).toNatClampNeg then none else (
        bdV (e_X10_tell (((σ18.1 (30, 0, 0, 0) ((nI 1336).toNatClampNeg)) - x2).toInt64) σ18) (fun σ19 =>
        some (some (some (.inl x3)), σ19)))))))
    else (
      let σ20 := st σ (10, 0, 0, 0) 4 (nI 0);
      if x3 < x1 then (
        bdV (e_X10_tell (lN 1) σ20) (fun σ21 =>
        if nI 1336 < 0 ∨ 1432 ≤ (nI 1336).toNatClampNeg then none else (
        bdV (e_X10_tell (((σ21.1 (30, 0, 0, 0) ((nI 1336).toNatClampNeg)) - x2).toInt64) σ21) (fun σ22 =>
        some (some (some (.inl x3)), σ22)))))
      else (
        bdV (e_X10_tell (lN 0) σ20) (fun σ23 =>
        if nI 1336 < 0 ∨ 1432 ≤ (nI 1336).toNatClampNeg then none else (
        bdV (e_X10_tell (((σ23.1 (30, 0, 0, 0) ((nI 1336).toNatClampNeg)) - x2).toInt64) σ23) (fun σ24 =>
        some (some (some (.inl x3)), σ24))))))) := (EvOf_eq mcode _).trans rfl
set_option maxRecDepth 100000 in
set_option maxHeartbeats 4000000 in
theorem q_X10_change (σ : mS) : e_X10_change σ =
  b_X10_change_2 (nI 0) σ := (EvOf_eq mcode _).trans rfl
set_option maxRecDepth 100000 in
set_option maxHeartbeats 4000000 in
theorem q_X10_change_2 (x1 : Int32) (σ : mS) : b_X10_change_2 x1 σ =
  if x1 < nI 1432 then (
    if x1 < 0 ∨ 1432 ≤ x1.toNatClampNeg then none else (
    if x1 < 0 ∨ 1432 ≤ x1.toNatClampNeg then none else (
    let σ1 := st σ (39, 0, 0, 0) x1.toNatClampNeg (σ.1 (30, 0, 0, 0) x1.toNatClampNeg);
    b_X10_change_2 (x1 + 1) σ1)))
  else (
    bdV (e_X10_note σ) (fun σ2 =>
    some (some none, σ2))) := (EvOf_eq mcode _).trans rfl
set_option maxRecDepth 100000 in
set_option maxHeartbeats 4000000 in
theorem q_X10_note (σ : mS) : e_X10_note σ =
  if σ.1 (10, 0, 0, 0) 17 = nI 6 then (
    b_X10_note_11 (nI 0) σ)
  else (
    b_X10_note_52 (nI 0) σ) := (EvOf_eq mcode _).trans rfl
set_option maxRecDepth 100000 in
set_option maxHeartbeats 4000000 in
theorem q_X10_note_11 (x1 : Int32) (σ : mS) : b_X10_note_11 x1 σ =
  if x1 < nI 7160 then (
    if x1 + (nI 1432) < 0 ∨ 8592 ≤ (x1 + (nI 1432)).toNatClampNeg then none else (
    if x1 < 0 ∨ 8592 ≤ x1.toNatClampNeg then none else (
    let σ1 := st σ (38, 0, 0, 0) x1.toNatClampNeg (σ.1 (38, 0, 0, 0) ((x1 + (nI 1432)).toNatClampNeg));
    b_X10_note_11 (x1 + 1) σ1)))
  else (
    let σ2 := st σ (10, 0, 0, 0) 17 ((σ.1 (10, 0, 0, 0) 17) - (nI 1));
    b_X10_note_52 (nI 0) σ2) := (EvOf_eq mcode _).trans rfl
set_option maxRecDepth 100000 in
set_option maxHeartbeats 4000000 in
theorem q_X10_note_52 (x1 : Int32) (σ : mS) : b_X10_note_52 x1 σ =
  if x1 < nI 1432 then (
    if x1 < 0 ∨ 1432 ≤ x1.toNatClampNeg then none else (
    if ((nI 1432) * (σ.1 (10, 0, 0, 0) 17)) + x1 < 0 ∨ 8592 ≤ (((nI 1432) * (σ.1 (10, 0, 0, 0) 17)) + x1).toNatClampNeg then none else (
    let σ1 := st σ (38, 0, 0, 0) ((((nI 1432) * (σ.1 (10, 0, 0, 0) 17)) + x1).toNatClampNeg) (σ.1 (39, 0, 0, 0) x1.toNatClampNeg);
    b_X10_note_52 (x1 + 1) σ1)))
  else (
    let σ2 := st σ (10, 0, 0, 0) 17 ((σ.1 (10, 0, 0, 0) 17) + (nI 1));
    some (some none, σ2)) := (EvOf_eq mcode _).trans rfl
set_option maxRecDepth 100000 in
set_option maxHeartbeats 4000000 in
theorem q_X10_undo (σ : mS) : e_X10_undo σ =
  let σ1 := st σ (10, 0, 0, 0) 5 (nI 0);
  if σ1.1 (10, 0, 0, 0) 17 = 0 then (
    some (some (some (.inl (-1))), σ1))
  else (
    let σ2 := st σ1 (10, 0, 0, 0) 17 ((σ1.1 (10, 0, 0, 0) 17) - (nI 1));
    b_X10_undo_26 (nI 0) σ2) := (EvOf_eq mcode _).trans rfl
set_option maxRecDepth 100000 in
set_option maxHeartbeats 4000000 in
theorem q_X10_undo_26 (x1 : Int32) (σ : mS) : b_X10_undo_26 x1 σ =
  if x1 < nI 1432 then (
    if ((nI 1432) * (σ.1 (10, 0, 0, 0) 17)) + x1 < 0 ∨ 8592 ≤ (((nI 1432) * (σ.1 (10, 0, 0, 0) 17)) + x1).toNatClampNeg then none else (
    if x1 < 0 ∨ 1432 ≤ x1.toNatClampNeg then none else (
    let σ1 := st σ (30, 0, 0, 0) x1.toNatClampNeg (σ.1 (38, 0, 0, 0) ((((nI 1432) * (σ.1 (10, 0, 0, 0) 17)) + x1).toNatClampNeg));
    b_X10_undo_26 (x1 + 1) σ1)))
  else (
    some (some (some (.inl (σ.1 (10, 0, 0, 0) 17))), σ)) := (EvOf_eq mcode _).trans rfl
set_option maxRecDepth 100000 in
set_option maxHeartbeats 4000000 in
theorem q_X10_drawBeside (p1 : Int32) (σ : mS) : e_X10_drawBeside p1 σ =
  let σ1 := st σ (10, 0, 0, 0) 18 (((σ.1 (10, 0, 0, 0) 18) * (nI 1103515245)) + (nI 12345));
  if p1 = 0 then none else (
  some (some (some (.inl ((iushr (σ1.1 (10, 0, 0, 0) 18) (nI 16)) - (iushr (σ1.1 (10, 0, 0, 0) 18) (nI 16)) / p1 * p1))), σ1)) := (EvOf_eq mcode _).trans rfl
set_option maxRecDepth 100000 in
set_option maxHeartbeats 4000000 in
theorem q_X10_years (p1 : Int32) (p2 : Int32) (σ : mS) : e_X10_years p1 p2 σ =
  let σ1 := st σ (10, 0, 0, 0) 5 (nI 0);
  bdI (e_X10_in p2 (nI 1) (nI 40) σ1) (fun v3 σ2 =>
  if v3 = 0 then (
    some (some (some (.inl (-1))), σ2))
  else (
    let σ4 := st σ2 (10, 0, 0, 0) 18 p1;
    bdV (e_X10_layAside σ4) (fun σ5 =>
    b_X10_years_28 p2 (nI 0) σ5))) := (EvOf_eq mcode _).trans rfl
set_option maxRecDepth 100000 in
set_option maxHeartbeats 4000000 in
theorem q_X10_years_28 (x2 : Int32) (x3 : Int32) (σ : mS) : b_X10_years_28 x2 x3 σ =
  if x3 < x2 then (
    bdI (e_X10_drawBeside (nI 3) σ) (fun v2 σ1 =>
    if v2 = nI 2 then (
      bdI (e_X10_drawBeside (nI 8) σ1) (fun v4 σ3 =>
      bdV (e_X10_goSlots (v4 + (nI 1)) σ3) (fun σ5 =>
      b_X10_years_28 x2 (x3 + 1) σ5)))
    else (
      bdI (e_X10_drawBeside (nI 6) σ1) (fun v7 σ6 =>
      bdI (e_X10_drawBeside (nI 4) σ6) (fun v9 σ8 =>
      bdI (e_X10_drawBeside (nI 6) σ8) (fun v11 σ10 =>
      bdI (e_X10_drawBeside (nI 9) σ10) (fun v13 σ12 =>
      bdI (e_X10_refusesOffer v7 v9 v11 (v13 + (nI 1)) σ12) (fun v15 σ14 =>
      if v15 = 0 then (
        bdV (e_X10_put v7 v9 v11 (v13 + (nI 1)) (nI 0) σ14) (fun σ16 =>
        b_X10_years_28 x2 (x3 + 1) σ16))
      else (
        b_X10_years_28 x2 (x3 + 1) σ14)))))))))
  else (
    if nI 1336 < 0 ∨ 1432 ≤ (nI 1336).toNatClampNeg then none else (
    if nI 1336 < 0 ∨ 1432 ≤ (nI 1336).toNatClampNeg then none else (
    if nI 1337 < 0 ∨ 1432 ≤ (nI 1337).toNatClampNeg then none else (
    if nI 1337 < 0 ∨ 1432 ≤ (nI 1337).toNatClampNeg then none else (
    bdI (e_X10_allWaiting σ) (fun v18 σ17 =>
    if nI 1 < 0 ∨ 1432 ≤ (nI 1).toNatClampNeg then none else (
    if nI 1 < 0 ∨ 1432 ≤ (nI 1).toNatClampNeg then none else (
    bdV (e_X10_comesBack σ17) (fun σ19 =>
    let σ20 := st σ19 (10, 0, 0, 0) 4 (nI 0);
    bdV (e_X10_tell (((σ.1 (30, 0, 0, 0) ((nI 1337).toNatClampNeg)) - (σ.1 (36, 0, 0, 0) ((nI 1337).toNatClampNeg))).toInt64) σ20) (fun σ21 =>
    bdV (e_X10_tell ((v18).toInt64) σ21) (fun σ22 =>
    bdV (e_X10_tell (((σ17.1 (30, 0, 0, 0) ((nI 1).toNatClampNeg)) - (σ17.1 (36, 0, 0, 0) ((nI 1).toNatClampNeg))).toInt64) σ22) (fun σ23 =>
    some (some (some (.inl ((σ.1 (30, 0, 0, 0) ((nI 1336).toNatClampNeg)) - (σ.1 (36, 0, 0, 0) ((nI 1336).toNatClampNeg))))), σ23))))))))))))) := (EvOf_eq mcode _).trans rfl
set_option maxRecDepth 100000 in
set_option maxHeartbeats 4000000 in
theorem q_X10_keep (p1 : Int32) (σ : mS) : e_X10_keep p1 σ =
  let σ1 := st σ (10, 0, 0, 0) 5 (nI 0);
  bdI (e_X10_in p1 (nI 0) (nI 1) σ1) (fun v3 σ2 =>
  if v3 = 0 then (
    if nI 0 = 0 ∨ nI 0 = 1 then some (some (some (.inl (nI 0))), σ2) else none)
  else (
    if p1 < 0 ∨ 2 ≤ p1.toNatClampNeg then none else (
    if nI 1 = 0 ∨ nI 1 = 1 then (
    let σ4 := st σ2 (41, 0, 0, 0) p1.toNatClampNeg (nI 1);
    b_X10_keep_25 p1 (nI 0) σ4) else none))) := (EvOf_eq mcode _).trans rfl
set_option maxRecDepth 100000 in
set_option maxHeartbeats 4000000 in
theorem q_X10_keep_25 (x1 : Int32) (x2 : Int32) (σ : mS) : b_X10_keep_25 x1 x2 σ =
  if x2 < nI 1432 then (
    if x2 < 0 ∨ 1432 ≤ x2.toNatClampNeg then none else (
    if ((nI 1432) * x1) + x2 < 0 ∨ 2864 ≤ (((nI 1432) * x1) + x2).toNatClampNeg then none else (
    let σ1 := st σ (40, 0, 0, 0) ((((nI 1432) * x1) + x2).toNatClampNeg) (σ.1 (30, 0, 0, 0) x2.toNatClampNeg);
    b_X10_keep_25 x1 (x2 + 1) σ1)))
  else (
    if nI 1 = 0 ∨ nI 1 = 1 then some (some (some (.inl (nI 1))), σ) else none) := (EvOf_eq mcode _).trans rfl
set_option maxRecDepth 100000 in
set_option maxHeartbeats 4000000 in
theorem q_X10_again (p1 : Int32) (σ : mS) : e_X10_again p1 σ =
  let σ1 := st σ (10, 0, 0, 0) 5 (nI 0);
  bdI (e_X10_in p1 (nI 0) (nI 1) σ1) (fun v3 σ2 =>
  if v3 = 0 then (
    if nI 0 = 0 ∨ nI 0 = 1 then some (some (some (.inl (nI 0))), σ2) else none)
  else (
    if p1 < 0 ∨ 2 ≤ p1.toNatClampNeg then none else (
    if σ2.1 (41, 0, 0, 0) p1.toNatClampNeg = 0 then (
      if nI 0 = 0 ∨ nI 0 = 1 then some (some (some (.inl (nI 0))), σ2) else none)
    else (
      b_X10_again_27 p1 (nI 0) σ2)))) := (EvOf_eq mcode _).trans rfl
set_option maxRecDepth 100000 in
set_option maxHeartbeats 4000000 in
theorem q_X10_again_27 (x1 : Int32) (x2 : Int32) (σ : mS) : b_X10_again_27 x1 x2 σ =
  if x2 < nI 1432 then (
    if ((nI 1432) * x1) + x2 < 0 ∨ 2864 ≤ (((nI 1432) * x1) + x2).toNatClampNeg then none else (
    if x2 < 0 ∨ 1432 ≤ x2.toNatClampNeg then none else (
    let σ1 := st σ (30, 0, 0, 0) x2.toNatClampNeg (σ.1 (40, 0, 0, 0) ((((nI 1432) * x1) + x2).toNatClampNeg));
    b_X10_again_27 x1 (x2 + 1) σ1)))
  else (
    let σ2 := st σ (10, 0, 0, 0) 17 (nI 0);
    if nI 1 = 0 ∨ nI 1 = 1 then some (some (some (.inl (nI 1))), σ2) else none) := (EvOf_eq mcode _).trans rfl
set_option maxRecDepth 100000 in
set_option maxHeartbeats 4000000 in
theorem q_X10_exchanges (σ : mS) : e_X10_exchanges σ =
  b_X10_exchanges_4 (nI 0) (nI 0) σ := (EvOf_eq mcode _).trans rfl
set_option maxRecDepth 100000 in
set_option maxHeartbeats 4000000 in
theorem q_X10_exchanges_4 (x1 : Int32) (x2 : Int32) (σ : mS) : b_X10_exchanges_4 x1 x2 σ =
  if nI 0 < 0 ∨ 1432 ≤ (nI 0).toNatClampNeg then none else (
  if x2 < σ.1 (30, 0, 0, 0) ((nI 0).toNatClampNeg) then (
    bdI (e_X10_exchangeAt x2 σ) (fun v2 σ1 =>
    if v2 + (nI 0) < 0 ∨ 1432 ≤ (v2 + (nI 0)).toNatClampNeg then none else (
    b_X10_exchanges_4 (x1 + (σ1.1 (30, 0, 0, 0) ((v2 + (nI 0)).toNatClampNeg))) (x2 + 1) σ1)))
  else (
    some (some (some (.inl x1)), σ))) := (EvOf_eq mcode _).trans rfl
set_option maxRecDepth 100000 in
set_option maxHeartbeats 4000000 in
theorem q_X10_count (p1 : Int32) (σ : mS) : e_X10_count p1 σ =
  let σ1 := st σ (10, 0, 0, 0) 5 (nI 0);
  if p1 = nI 0 then (
    if nI 0 < 0 ∨ 1432 ≤ (nI 0).toNatClampNeg then none else (
    some (some (some (.inl (σ1.1 (30, 0, 0, 0) ((nI 0).toNatClampNeg)))), σ1)))
  else if p1 = nI 1 then (
    if nI 1 < 0 ∨ 1432 ≤ (nI 1).toNatClampNeg then none else (
    some (some (some (.inl (σ1.1 (30, 0, 0, 0) ((nI 1).toNatClampNeg)))), σ1)))
  else if p1 = nI 2 then (
    bdI (e_X10_allWaiting σ1) (fun v3 σ2 =>
    some (some (some (.inl v3)), σ2)))
  else if p1 = nI 3 then (
    bdI (e_X10_exchanges σ1) (fun v5 σ4 =>
    some (some (some (.inl v5)), σ4)))
  else if p1 = nI 4 then (
    some (some (some (.inl (σ1.1 (10, 0, 0, 0) 17))), σ1))
  else if p1 = nI 5 then (
    some (some (some (.inl (σ1.1 (10, 0, 0, 0) 4))), σ1))
  else if p1 = nI 6 then (
    some (some (some (.inl (σ1.1 (10, 0, 0, 0) 2))), σ1))
  else if p1 = nI 7 then (
    if nI 1336 < 0 ∨ 1432 ≤ (nI 1336).toNatClampNeg then none else (
    some (some (some (.inl (σ1.1 (30, 0, 0, 0) ((nI 1336).toNatClampNeg)))), σ1)))
  else (some (some (some (.inl (-1))), σ1)) := (EvOf_eq mcode _).trans rfl
set_option maxRecDepth 100000 in
set_option maxHeartbeats 4000000 in
theorem q_X10_row (p1 : Int32) (σ : mS) : e_X10_row p1 σ =
  let σ1 := st σ (10, 0, 0, 0) 5 (nI 0);
  bdI (e_X10_in p1 (nI 0) ((σ1.1 (10, 0, 0, 0) 4) - (nI 1)) σ1) (fun v3 σ2 =>
  if v3 = 0 then (
    bdI (e_X10_lost σ2) (fun v5 σ4 =>
    some (some (some (.inr (.inl ((v5).toInt64)))), σ4)))
  else (
    if p1 < 0 ∨ 40 ≤ p1.toNatClampNeg then none else (
    some (some (some (.inr (.inl (σ2.2 (32, 0, 0, 0) p1.toNatClampNeg)))), σ2)))) := (EvOf_eq mcode _).trans rfl
end
section
/-! What each block comes to (by program out of the mini-code) -/
set_option maxRecDepth 100000 in
set_option maxHeartbeats 4000000 in
theorem q_X0_become (oa : Nat) (p1a : Nat) (σ : mS) : e_X0_become oa p1a σ =
  if nI 12 < 0 ∨ nI 0 < 0 ∨ nI 0 < 0 ∨ 12 < (nI 0).toNatClampNeg + (nI 12).toNatClampNeg ∨ 12 < (nI 0).toNatClampNeg + (nI 12).toNatClampNeg then none else (
  let σ1 := stC σ (11, p1a, 0, 0) ((nI 0).toNatClampNeg) (11, oa, 0, 0) ((nI 0).toNatClampNeg) ((nI 12).toNatClampNeg);
  let σ2 := st σ1 (1, oa, 0, 0) 0 (σ1.1 (1, p1a, 0, 0) 0);
  b_X0_become_31 oa p1a (nI 0) σ2) := (EvOf_eq mcode _).trans rfl
set_option maxRecDepth 100000 in
set_option maxHeartbeats 4000000 in
theorem q_X0_become_31 (o0a : Nat) (o1a : Nat) (x2 : Int32) (σ : mS) : b_X0_become_31 o0a o1a x2 σ =
  if x2 < σ.1 (0, o1a, 0, 0) 3 then (
    if x2 < 0 ∨ 6 ≤ x2.toNatClampNeg then none else (
    if x2 < 0 ∨ 6 ≤ x2.toNatClampNeg then none else (
    bdV (e_X8_become o0a x2.toNatClampNeg o1a x2.toNatClampNeg σ) (fun σ1 =>
    b_X0_become_31 o0a o1a (x2 + 1) σ1))))
  else (
    let σ2 := st σ (0, o0a, 0, 0) 3 (σ.1 (0, o1a, 0, 0) 3);
    let σ3 := st σ2 (0, o0a, 0, 0) 4 (σ2.1 (0, o1a, 0, 0) 4);
    let σ4 := st σ3 (0, o0a, 0, 0) 5 (σ3.1 (0, o1a, 0, 0) 5);
    let σ5 := st σ4 (0, o0a, 0, 0) 6 (σ4.1 (0, o1a, 0, 0) 6);
    let σ6 := st σ5 (0, o0a, 0, 0) 7 (σ5.1 (0, o1a, 0, 0) 7);
    let σ7 := st σ6 (0, o0a, 0, 0) 8 (σ6.1 (0, o1a, 0, 0) 8);
    let σ8 := st σ7 (0, o0a, 0, 0) 9 (σ7.1 (0, o1a, 0, 0) 9);
    let σ9 := st σ8 (0, o0a, 0, 0) 10 (σ8.1 (0, o1a, 0, 0) 10);
    let σ10 := st σ9 (0, o0a, 0, 0) 11 (σ9.1 (0, o1a, 0, 0) 11);
    if σ10.1 (0, o1a, 0, 0) 12 = 0 ∨ σ10.1 (0, o1a, 0, 0) 12 = 1 then (
    let σ11 := st σ10 (0, o0a, 0, 0) 12 (σ10.1 (0, o1a, 0, 0) 12);
    some (some none, σ11)) else none) := (EvOf_eq mcode _).trans rfl
set_option maxRecDepth 100000 in
set_option maxHeartbeats 4000000 in
theorem q_X0_startAnew (oa : Nat) (p1 : Int32) (σ : mS) : e_X0_startAnew oa p1 σ =
  let σ1 := st σ (0, oa, 0, 0) 3 p1;
  let σ2 := st σ1 (0, oa, 0, 0) 4 (nI 0);
  let σ3 := st σ2 (0, oa, 0, 0) 5 (nI 0);
  let σ4 := st σ3 (0, oa, 0, 0) 6 (nI 0);
  let σ5 := st σ4 (0, oa, 0, 0) 7 (nI 0);
  let σ6 := st σ5 (0, oa, 0, 0) 8 (nI 0);
  let σ7 := st σ6 (0, oa, 0, 0) 9 (nI 0);
  let σ8 := st σ7 (0, oa, 0, 0) 10 (nI 0);
  let σ9 := st σ8 (0, oa, 0, 0) 11 (nI 0);
  if nI 0 = 0 ∨ nI 0 = 1 then (
  let σ10 := st σ9 (0, oa, 0, 0) 12 (nI 0);
  b_X0_startAnew_52 oa (nI 0) σ10) else none := (EvOf_eq mcode _).trans rfl
set_option maxRecDepth 100000 in
set_option maxHeartbeats 4000000 in
theorem q_X0_startAnew_52 (o0a : Nat) (x3 : Int32) (σ : mS) : b_X0_startAnew_52 o0a x3 σ =
  if x3 < σ.1 (0, o0a, 0, 0) 3 then (
    bdV (e_X0_startStation o0a x3 σ) (fun σ1 =>
    b_X0_startAnew_52 o0a (x3 + 1) σ1))
  else (
    some (some none, σ)) := (EvOf_eq mcode _).trans rfl
set_option maxRecDepth 100000 in
set_option maxHeartbeats 4000000 in
theorem q_X0_startStation (oa : Nat) (p1 : Int32) (σ : mS) : e_X0_startStation oa p1 σ =
  if p1 < 0 ∨ 6 ≤ p1.toNatClampNeg then none else (
  let σ1 := st σ (8, oa, p1.toNatClampNeg, 0) 6 (nI 0);
  b_X0_startStation_15 oa p1 oa p1.toNatClampNeg (nI 0) σ1) := (EvOf_eq mcode _).trans rfl
set_option maxRecDepth 100000 in
set_option maxHeartbeats 4000000 in
theorem q_X0_startStation_15 (o0a : Nat) (x1 : Int32) (o3a : Nat) (o3s : Nat) (x4 : Int32) (σ : mS) : b_X0_startStation_15 o0a x1 o3a o3s x4 σ =
  if x4 < nI 6 then (
    if (x1 * (nI 6)) + x4 < nI 36 then (
      if (x1 * (nI 6)) + x4 < 0 ∨ 36 ≤ ((x1 * (nI 6)) + x4).toNatClampNeg then none else (
      if x4 < 0 ∨ 6 ≤ x4.toNatClampNeg then none else (
      let σ1 := st σ (17, o3a, o3s, 0) x4.toNatClampNeg (σ.1 (25, 0, 0, 0) (((x1 * (nI 6)) + x4).toNatClampNeg));
      if x4 < 0 ∨ 6 ≤ x4.toNatClampNeg then none else (
      let σ2 := st σ1 (18, o3a, o3s, 0) x4.toNatClampNeg (nI 1);
      if x4 < 0 ∨ 6 ≤ x4.toNatClampNeg then none else (
      let σ3 := st σ2 (19, o3a, o3s, 0) x4.toNatClampNeg (nI 0);
      if 0 < σ.1 (25, 0, 0, 0) (((x1 * (nI 6)) + x4).toNatClampNeg) then (
        let σ4 := st σ3 (8, o3a, o3s, 0) 6 ((σ3.1 (8, o3a, o3s, 0) 6) ||| ((nI 1) <<< (x4 &&& 31)));
        b_X0_startStation_15 o0a x1 o3a o3s (x4 + 1) σ4)
      else (
        let σ5 := st σ3 (8, o3a, o3s, 0) 6 ((σ3.1 (8, o3a, o3s, 0) 6) ||| (nI 0));
        b_X0_startStation_15 o0a x1 o3a o3s (x4 + 1) σ5))))))
    else (
      if x4 < 0 ∨ 6 ≤ x4.toNatClampNeg then none else (
      let σ6 := st σ (17, o3a, o3s, 0) x4.toNatClampNeg (nI 0);
      if x4 < 0 ∨ 6 ≤ x4.toNatClampNeg then none else (
      let σ7 := st σ6 (18, o3a, o3s, 0) x4.toNatClampNeg (nI 1);
      if x4 < 0 ∨ 6 ≤ x4.toNatClampNeg then none else (
      let σ8 := st σ7 (19, o3a, o3s, 0) x4.toNatClampNeg (nI 0);
      if 0 < nI 0 then (
        let σ9 := st σ8 (8, o3a, o3s, 0) 6 ((σ8.1 (8, o3a, o3s, 0) 6) ||| ((nI 1) <<< (x4 &&& 31)));
        b_X0_startStation_15 o0a x1 o3a o3s (x4 + 1) σ9)
      else (
        let σ10 := st σ8 (8, o3a, o3s, 0) 6 ((σ8.1 (8, o3a, o3s, 0) 6) ||| (nI 0));
        b_X0_startStation_15 o0a x1 o3a o3s (x4 + 1) σ10))))))
  else (
    b_X0_startStation_104 o0a o3a o3s (nI 0) σ) := (EvOf_eq mcode _).trans rfl
set_option maxRecDepth 100000 in
set_option maxHeartbeats 4000000 in
theorem q_X0_startStation_104 (o0a : Nat) (o3a : Nat) (o3s : Nat) (x4 : Int32) (σ : mS) : b_X0_startStation_104 o0a o3a o3s x4 σ =
  if x4 < nI 4 then (
    if x4 < 0 ∨ 4 ≤ x4.toNatClampNeg then none else (
    let σ1 := st σ (6, o3a, o3s, x4.toNatClampNeg) 1 (nI 0);
    if x4 < 0 ∨ 4 ≤ x4.toNatClampNeg then none else (
    let σ2 := st σ1 (6, o3a, o3s, x4.toNatClampNeg) 3 (nI 0);
    if x4 < 0 ∨ 4 ≤ x4.toNatClampNeg then none else (
    if (nI 7) + x4 < 0 ∨ 12 ≤ ((nI 7) + x4).toNatClampNeg then none else (
    let σ3 := st σ2 (6, o3a, o3s, x4.toNatClampNeg) 2 (σ2.1 (11, o0a, 0, 0) (((nI 7) + x4).toNatClampNeg));
    b_X0_startStation_104 o0a o3a o3s (x4 + 1) σ3)))))
  else (
    let σ4 := st σ (8, o3a, o3s, 0) 7 (nI 0);
    let σ5 := st σ4 (8, o3a, o3s, 0) 8 (nI 0);
    let σ6 := st σ5 (8, o3a, o3s, 0) 9 (nI 0);
    let σ7 := st σ6 (8, o3a, o3s, 0) 10 (nI 0);
    if nI 0 = 0 ∨ nI 0 = 1 then (
    let σ8 := st σ7 (2, o3a, o3s, 0) 0 (nI 0);
    bdV (e_X8_setOwing o3a o3s (-1) (nI 0) σ8) (fun σ9 =>
    bdV (e_X3_startAnew o3a o3s σ9) (fun σ10 =>
    some (some none, σ10)))) else none) := (EvOf_eq mcode _).trans rfl
set_option maxRecDepth 100000 in
set_option maxHeartbeats 4000000 in
theorem q_X0_hear (oa : Nat) (p1 : Int32) (p2 : Int32) (σ : mS) : e_X0_hear oa p1 p2 σ =
  if p1 < 0 then (
    if nI 0 = 0 ∨ nI 0 = 1 then some (some (some (.inl (nI 0))), σ) else none)
  else (
    if p1 < σ.1 (0, oa, 0, 0) 3 then (
      if p2 < 0 then (
        if nI 0 = 0 ∨ nI 0 = 1 then some (some (some (.inl (nI 0))), σ) else none)
      else (
        if p2 < σ.1 (0, oa, 0, 0) 3 then (
          if p1 < 0 ∨ 6 ≤ p1.toNatClampNeg then none else (
          if ((σ.1 (8, oa, p1.toNatClampNeg, 0) 6) >>> (p2 &&& 31)) &&& (nI 1) = 0 then (
            if nI 0 = 0 ∨ nI 0 = 1 then some (some (some (.inl (nI 0))), σ) else none)
          else (
            if nI 1 = 0 ∨ nI 1 = 1 then some (some (some (.inl (nI 1))), σ) else none)))
        else (
          if nI 0 = 0 ∨ nI 0 = 1 then some (some (some (.inl (nI 0))), σ) else none)))
    else (
      if nI 0 = 0 ∨ nI 0 = 1 then some (some (some (.inl (nI 0))), σ) else none)) := (EvOf_eq mcode _).trans rfl
set_option maxRecDepth 100000 in
set_option maxHeartbeats 4000000 in
theorem q_X0_sumOf (oa : Nat) (p1 : Int32) (σ : mS) : e_X0_sumOf oa p1 σ =
  b_X0_sumOf_4 oa p1 (nI 0) (nI 0) σ := (EvOf_eq mcode _).trans rfl
set_option maxRecDepth 100000 in
set_option maxHeartbeats 4000000 in
theorem q_X0_sumOf_4 (o0a : Nat) (x1 : Int32) (x2 : Int32) (x3 : Int32) (σ : mS) : b_X0_sumOf_4 o0a x1 x2 x3 σ =
  if x3 < σ.1 (0, o0a, 0, 0) 3 then (
    if x3 < 0 ∨ 6 ≤ x3.toNatClampNeg then none else (
    if x1 < 0 ∨ 9 ≤ x1.toNatClampNeg then none else (
    b_X0_sumOf_4 o0a x1 (x2 + (σ.1 (15, o0a, x3.toNatClampNeg, 0) x1.toNatClampNeg)) (x3 + 1) σ)))
  else (
    some (some (some (.inl x2)), σ)) := (EvOf_eq mcode _).trans rfl
set_option maxRecDepth 100000 in
set_option maxHeartbeats 4000000 in
theorem q_X0_waiting (oa : Nat) (σ : mS) : e_X0_waiting oa σ =
  b_X0_waiting_4 oa (nI 0) (nI 0) σ := (EvOf_eq mcode _).trans rfl
set_option maxRecDepth 100000 in
set_option maxHeartbeats 4000000 in
theorem q_X0_waiting_4 (o0a : Nat) (x1 : Int32) (x2 : Int32) (σ : mS) : b_X0_waiting_4 o0a x1 x2 σ =
  if x2 < σ.1 (0, o0a, 0, 0) 3 then (
    if x2 < 0 ∨ 6 ≤ x2.toNatClampNeg then none else (
    bdI (e_X8_waiting o0a x2.toNatClampNeg σ) (fun v2 σ1 =>
    b_X0_waiting_4 o0a (x1 + v2) (x2 + 1) σ1)))
  else (
    some (some (some (.inl x1)), σ)) := (EvOf_eq mcode _).trans rfl
set_option maxRecDepth 100000 in
set_option maxHeartbeats 4000000 in
theorem q_X0_exchangesOn (oa : Nat) (σ : mS) : e_X0_exchangesOn oa σ =
  b_X0_exchangesOn_4 oa (nI 0) (nI 0) σ := (EvOf_eq mcode _).trans rfl
set_option maxRecDepth 100000 in
set_option maxHeartbeats 4000000 in
theorem q_X0_exchangesOn_4 (o0a : Nat) (x1 : Int32) (x2 : Int32) (σ : mS) : b_X0_exchangesOn_4 o0a x1 x2 σ =
  if x2 < σ.1 (0, o0a, 0, 0) 3 then (
    if x2 < 0 ∨ 6 ≤ x2.toNatClampNeg then none else (
    if σ.1 (2, o0a, x2.toNatClampNeg, 0) 0 = 0 then (
      b_X0_exchangesOn_4 o0a (x1 + (nI 0)) (x2 + 1) σ)
    else (
      b_X0_exchangesOn_4 o0a (x1 + (nI 1)) (x2 + 1) σ)))
  else (
    some (some (some (.inl x1)), σ)) := (EvOf_eq mcode _).trans rfl
set_option maxRecDepth 100000 in
set_option maxHeartbeats 4000000 in
theorem q_X0_emptyQueues (oa : Nat) (p1 : Int32) (σ : mS) : e_X0_emptyQueues oa p1 σ =
  b_X0_emptyQueues_2 oa p1 (nI 0) σ := (EvOf_eq mcode _).trans rfl
set_option maxRecDepth 100000 in
set_option maxHeartbeats 4000000 in
theorem q_X0_emptyQueues_2 (o0a : Nat) (x1 : Int32) (x2 : Int32) (σ : mS) : b_X0_emptyQueues_2 o0a x1 x2 σ =
  if x2 < σ.1 (0, o0a, 0, 0) 3 then (
    if x2 < 0 ∨ 6 ≤ x2.toNatClampNeg then none else (
    if x1 < 0 ∨ 4 ≤ x1.toNatClampNeg then none else (
    let σ1 := st σ (6, o0a, x2.toNatClampNeg, x1.toNatClampNeg) 1 (nI 0);
    b_X0_emptyQueues_2 o0a x1 (x2 + 1) σ1)))
  else (
    some (some none, σ)) := (EvOf_eq mcode _).trans rfl
set_option maxRecDepth 100000 in
set_option maxHeartbeats 4000000 in
theorem q_X0_whyNotOffer (oa : Nat) (p1 : Int32) (p2 : Int32) (p3 : Int32) (p4 : Int32) (σ : mS) : e_X0_whyNotOffer oa p1 p2 p3 p4 σ =
  if p1 < 0 then (
    some (some (some (.inl (-1))), σ))
  else (
    if p1 < σ.1 (0, oa, 0, 0) 3 then (
      if p3 < 0 then (
        some (some (some (.inl (-1))), σ))
      else (
        if p3 < σ.1 (0, oa, 0, 0) 3 then (
          if p1 = p3 then (
            some (some (some (.inl (-1))), σ))
          else (
            bdI (e_X9_isRank p2 σ) (fun v2 σ1 =>
            if v2 = 0 then (
              some (some (some (.inl (-1))), σ1))
            else (
              if p4 < nI 1 then (
                some (some (some (.inl (-1))), σ1))
              else (
                if nI 9 < p4 then (
                  some (some (some (.inl (-1))), σ1))
                else (
                  bdI (e_X0_hear oa p1 p3 σ1) (fun v4 σ3 =>
                  if v4 = 0 then (
                    some (some (some (.inl (-3))), σ3))
                  else (
                    if p1 < 0 ∨ 6 ≤ p1.toNatClampNeg then none else (
                    if p2 < 0 ∨ 4 ≤ p2.toNatClampNeg then none else (
                    if σ3.1 (6, oa, p1.toNatClampNeg, p2.toNatClampNeg) 1 < nI 8 then (
                      some (some (some (.inl (nI 0))), σ3))
                    else (
                      some (some (some (.inl (-2))), σ3))))))))))))
        else (
          some (some (some (.inl (-1))), σ))))
    else (
      some (some (some (.inl (-1))), σ))) := (EvOf_eq mcode _).trans rfl
set_option maxRecDepth 100000 in
set_option maxHeartbeats 4000000 in
theorem q_X0_takeFrame (oa : Nat) (p1 : Int32) (p2 : Int32) (p3 : Int32) (p4 : Int32) (σ : mS) : e_X0_takeFrame oa p1 p2 p3 p4 σ =
  if p1 < 0 ∨ 6 ≤ p1.toNatClampNeg then none else (
  if p2 < 0 ∨ 4 ≤ p2.toNatClampNeg then none else (
  bdV (e_X6_addLast oa p1.toNatClampNeg p2.toNatClampNeg p3 p4 (σ.1 (0, oa, 0, 0) 4) σ) (fun σ1 =>
  some (some (some (.inl (σ1.1 (6, oa, p1.toNatClampNeg, p2.toNatClampNeg) 1))), σ1)))) := (EvOf_eq mcode _).trans rfl
set_option maxRecDepth 100000 in
set_option maxHeartbeats 4000000 in
theorem q_X0_markLast (oa : Nat) (p1 : Int32) (p2 : Int32) (σ : mS) : e_X0_markLast oa p1 p2 σ =
  if p1 < 0 ∨ 6 ≤ p1.toNatClampNeg then none else (
  if p2 < 0 ∨ 4 ≤ p2.toNatClampNeg then none else (
  if 0 < σ.1 (6, oa, p1.toNatClampNeg, p2.toNatClampNeg) 1 then (
    if (((σ.1 (6, oa, p1.toNatClampNeg, p2.toNatClampNeg) 1) - (nI 1)) * (nI 5)) + (nI 4) < 0 ∨ 40 ≤ ((((σ.1 (6, oa, p1.toNatClampNeg, p2.toNatClampNeg) 1) - (nI 1)) * (nI 5)) + (nI 4)).toNatClampNeg then none else (
    let σ1 := st σ (14, oa, p1.toNatClampNeg, p2.toNatClampNeg) (((((σ.1 (6, oa, p1.toNatClampNeg, p2.toNatClampNeg) 1) - (nI 1)) * (nI 5)) + (nI 4)).toNatClampNeg) (nI 1);
    if nI 0 = 0 ∨ nI 0 = 1 then (
    let σ2 := st σ1 (0, oa, 0, 0) 12 (nI 0);
    some (some none, σ2)) else none))
  else (
    if nI 0 = 0 ∨ nI 0 = 1 then (
    let σ3 := st σ (0, oa, 0, 0) 12 (nI 0);
    some (some none, σ3)) else none))) := (EvOf_eq mcode _).trans rfl
set_option maxRecDepth 100000 in
set_option maxHeartbeats 4000000 in
theorem q_X0_drawAll (oa : Nat) (σ : mS) : e_X0_drawAll oa σ =
  b_X0_drawAll_4 oa (nI 0) (nI 0) σ := (EvOf_eq mcode _).trans rfl
set_option maxRecDepth 100000 in
set_option maxHeartbeats 4000000 in
theorem q_X0_drawAll_4 (o0a : Nat) (x1 : Int32) (x2 : Int32) (σ : mS) : b_X0_drawAll_4 o0a x1 x2 σ =
  if x2 < σ.1 (0, o0a, 0, 0) 3 then (
    b_X0_drawAll_14 o0a x1 x2 (nI 0) σ)
  else (
    some (some (some (.inl x1)), σ)) := (EvOf_eq mcode _).trans rfl
set_option maxRecDepth 100000 in
set_option maxHeartbeats 4000000 in
theorem q_X0_drawAll_14 (o0a : Nat) (x1 : Int32) (x2 : Int32) (x3 : Int32) (σ : mS) : b_X0_drawAll_14 o0a x1 x2 x3 σ =
  if x3 < nI 4 then (
    if x2 < 0 ∨ 6 ≤ x2.toNatClampNeg then none else (
    if x3 < 0 ∨ 4 ≤ x3.toNatClampNeg then none else (
    if 0 < σ.1 (6, o0a, x2.toNatClampNeg, x3.toNatClampNeg) 1 then (
      bdI (e_X1_draw o0a ((σ.1 (6, o0a, x2.toNatClampNeg, x3.toNatClampNeg) 2) + (nI 1)) σ) (fun v2 σ1 =>
      let σ3 := st σ1 (6, o0a, x2.toNatClampNeg, x3.toNatClampNeg) 3 v2;
      b_X0_drawAll_14 o0a (x1 + 1) x2 (x3 + 1) σ3))
    else (
      b_X0_drawAll_14 o0a x1 x2 (x3 + 1) σ))))
  else (
    b_X0_drawAll_4 o0a x1 (x2 + 1) σ) := (EvOf_eq mcode _).trans rfl
set_option maxRecDepth 100000 in
set_option maxHeartbeats 4000000 in
theorem q_X0_isReady (oa : Nat) (p1 : Int32) (p2 : Int32) (σ : mS) : e_X0_isReady oa p1 p2 σ =
  if p1 < 0 ∨ 6 ≤ p1.toNatClampNeg then none else (
  if p2 < 0 ∨ 4 ≤ p2.toNatClampNeg then none else (
  if 0 < σ.1 (6, oa, p1.toNatClampNeg, p2.toNatClampNeg) 1 then (
    if σ.1 (6, oa, p1.toNatClampNeg, p2.toNatClampNeg) 3 = 0 then (
      if (nI 3) + p2 < 0 ∨ 12 ≤ ((nI 3) + p2).toNatClampNeg then none else (
      if p1 < 0 ∨ 6 ≤ p1.toNatClampNeg then none else (
      if σ.1 (8, oa, p1.toNatClampNeg, 0) 7 < σ.1 (11, oa, 0, 0) (((nI 3) + p2).toNatClampNeg) then (
        if nI 0 = 0 ∨ nI 0 = 1 then some (some (some (.inl (nI 0))), σ) else none)
      else (
        if nI 1 = 0 ∨ nI 1 = 1 then some (some (some (.inl (nI 1))), σ) else none))))
    else (
      if nI 0 = 0 ∨ nI 0 = 1 then some (some (some (.inl (nI 0))), σ) else none))
  else (
    if nI 0 = 0 ∨ nI 0 = 1 then some (some (some (.inl (nI 0))), σ) else none))) := (EvOf_eq mcode _).trans rfl
set_option maxRecDepth 100000 in
set_option maxHeartbeats 4000000 in
theorem q_X0_passSlot (oa : Nat) (σ : mS) : e_X0_passSlot oa σ =
  bdI (e_X0_runningSpans oa σ) (fun v2 σ1 =>
  let σ3 := st σ1 (0, oa, 0, 0) 7 v2;
  let σ4 := st σ3 (0, oa, 0, 0) 8 (nI 0);
  b_X0_passSlot_15 oa (nI 0) σ4) := (EvOf_eq mcode _).trans rfl
set_option maxRecDepth 100000 in
set_option maxHeartbeats 4000000 in
theorem q_X0_passSlot_15 (o0a : Nat) (x1 : Int32) (σ : mS) : b_X0_passSlot_15 o0a x1 σ =
  if x1 < σ.1 (0, o0a, 0, 0) 3 then (
    if x1 < 0 ∨ 6 ≤ x1.toNatClampNeg then none else (
    bdI (e_X8_isFree o0a x1.toNatClampNeg σ) (fun v2 σ1 =>
    if v2 = 0 then (
      b_X0_passSlot_15 o0a (x1 + 1) σ1)
    else (
      if x1 < 0 ∨ 6 ≤ x1.toNatClampNeg then none else (
      if σ1.1 (0, o0a, 0, 0) 4 < σ1.1 (8, o0a, x1.toNatClampNeg, 0) 8 then (
        b_X0_passSlot_15 o0a (x1 + 1) σ1)
      else (
        bdV (e_X0_beginOf o0a x1 σ1) (fun σ3 =>
        b_X0_passSlot_15 o0a (x1 + 1) σ3)))))))
  else (
    bdI (e_X0_senders o0a σ) (fun v5 σ4 =>
    let σ6 := st σ4 (0, o0a, 0, 0) 5 v5;
    bdI (e_X0_clearOnes o0a σ6) (fun v8 σ7 =>
    let σ9 := st σ7 (0, o0a, 0, 0) 6 v8;
    bdV (e_X0_noteSlot o0a σ9) (fun σ10 =>
    b_X0_passSlot_84 o0a (nI 0) σ10)))) := (EvOf_eq mcode _).trans rfl
set_option maxRecDepth 100000 in
set_option maxHeartbeats 4000000 in
theorem q_X0_passSlot_84 (o0a : Nat) (x1 : Int32) (σ : mS) : b_X0_passSlot_84 o0a x1 σ =
  if x1 < σ.1 (0, o0a, 0, 0) 3 then (
    if x1 < 0 ∨ 6 ≤ x1.toNatClampNeg then none else (
    if σ.1 (2, o0a, x1.toNatClampNeg, 0) 0 = 0 then (
      b_X0_passSlot_84 o0a (x1 + 1) σ)
    else (
      if σ.1 (2, o0a, x1.toNatClampNeg, 0) 1 < 0 then (
        b_X0_passSlot_84 o0a (x1 + 1) σ)
      else (
        if σ.1 (2, o0a, x1.toNatClampNeg, 0) 1 < σ.1 (0, o0a, 0, 0) 3 then (
          if σ.1 (2, o0a, x1.toNatClampNeg, 0) 5 = nI 0 then (
            bdV (e_X0_goAsk o0a x1 (σ.1 (2, o0a, x1.toNatClampNeg, 0) 1) o0a x1.toNatClampNeg σ) (fun σ1 =>
            b_X0_passSlot_84 o0a (x1 + 1) σ1))
          else if σ.1 (2, o0a, x1.toNatClampNeg, 0) 5 = nI 1 then (
            bdV (e_X0_goGrant o0a x1 (σ.1 (2, o0a, x1.toNatClampNeg, 0) 1) o0a x1.toNatClampNeg σ) (fun σ2 =>
            b_X0_passSlot_84 o0a (x1 + 1) σ2))
          else if σ.1 (2, o0a, x1.toNatClampNeg, 0) 5 = nI 2 then (
            bdV (e_X0_goData o0a x1 (σ.1 (2, o0a, x1.toNatClampNeg, 0) 1) o0a x1.toNatClampNeg σ) (fun σ3 =>
            b_X0_passSlot_84 o0a (x1 + 1) σ3))
          else (bdV (e_X0_goAnswer o0a x1 (σ.1 (2, o0a, x1.toNatClampNeg, 0) 1) o0a x1.toNatClampNeg σ) (fun σ4 =>
            b_X0_passSlot_84 o0a (x1 + 1) σ4)))
        else (
          b_X0_passSlot_84 o0a (x1 + 1) σ)))))
  else (
    b_X0_passSlot_213 o0a (nI 0) σ) := (EvOf_eq mcode _).trans rfl
set_option maxRecDepth 100000 in
set_option maxHeartbeats 4000000 in
theorem q_X0_passSlot_213 (o0a : Nat) (x1 : Int32) (σ : mS) : b_X0_passSlot_213 o0a x1 σ =
  if x1 < σ.1 (0, o0a, 0, 0) 3 then (
    bdV (e_X0_settle o0a x1 σ) (fun σ1 =>
    b_X0_passSlot_213 o0a (x1 + 1) σ1))
  else (
    let σ2 := st σ (0, o0a, 0, 0) 4 ((σ.1 (0, o0a, 0, 0) 4) + (nI 1));
    some (some none, σ2)) := (EvOf_eq mcode _).trans rfl
set_option maxRecDepth 100000 in
set_option maxHeartbeats 4000000 in
theorem q_X0_runningSpans (oa : Nat) (σ : mS) : e_X0_runningSpans oa σ =
  b_X0_runningSpans_4 oa (nI 0) (nI 0) σ := (EvOf_eq mcode _).trans rfl
set_option maxRecDepth 100000 in
set_option maxHeartbeats 4000000 in
theorem q_X0_runningSpans_4 (o0a : Nat) (x1 : Int32) (x2 : Int32) (σ : mS) : b_X0_runningSpans_4 o0a x1 x2 σ =
  if x2 < σ.1 (0, o0a, 0, 0) 3 then (
    if x2 < 0 ∨ 6 ≤ x2.toNatClampNeg then none else (
    if σ.1 (0, o0a, 0, 0) 4 < σ.1 (8, o0a, x2.toNatClampNeg, 0) 8 then (
      b_X0_runningSpans_4 o0a (x1 ||| ((nI 1) <<< (x2 &&& 31))) (x2 + 1) σ)
    else (
      b_X0_runningSpans_4 o0a (x1 ||| (nI 0)) (x2 + 1) σ)))
  else (
    some (some (some (.inl x1)), σ)) := (EvOf_eq mcode _).trans rfl
set_option maxRecDepth 100000 in
set_option maxHeartbeats 4000000 in
theorem q_X0_beginOf (oa : Nat) (p1 : Int32) (σ : mS) : e_X0_beginOf oa p1 σ =
  b_X0_beginOf_4 oa p1 (-1) (nI 0) σ := (EvOf_eq mcode _).trans rfl
set_option maxRecDepth 100000 in
set_option maxHeartbeats 4000000 in
theorem q_X0_beginOf_4 (o0a : Nat) (x1 : Int32) (x2 : Int32) (x3 : Int32) (σ : mS) : b_X0_beginOf_4 o0a x1 x2 x3 σ =
  if x3 < nI 4 then (
    bdI (e_X0_isReady o0a x1 x3 σ) (fun v2 σ1 =>
    if v2 = 0 then (
      b_X0_beginOf_4 o0a x1 x2 (x3 + 1) σ1)
    else (
      if x2 = (-1) then (
        bdV (e_X0_beginExchange o0a x1 x3 σ1) (fun σ3 =>
        b_X0_beginOf_4 o0a x1 x3 (x3 + 1) σ3))
      else (
        if x1 < 0 ∨ 6 ≤ x1.toNatClampNeg then none else (
        if nI 6 < 0 ∨ 9 ≤ (nI 6).toNatClampNeg then none else (
        if nI 6 < 0 ∨ 9 ≤ (nI 6).toNatClampNeg then none else (
        let σ4 := st σ1 (15, o0a, x1.toNatClampNeg, 0) ((nI 6).toNatClampNeg) ((σ1.1 (15, o0a, x1.toNatClampNeg, 0) ((nI 6).toNatClampNeg)) + (nI 1));
        bdV (e_X0_failFirst o0a x1 x3 σ4) (fun σ5 =>
        b_X0_beginOf_4 o0a x1 x2 (x3 + 1) σ5))))))))
  else (
    some (some none, σ)) := (EvOf_eq mcode _).trans rfl
set_option maxRecDepth 100000 in
set_option maxHeartbeats 4000000 in
theorem q_X0_beginExchange (oa : Nat) (p1 : Int32) (p2 : Int32) (σ : mS) : e_X0_beginExchange oa p1 p2 σ =
  if p1 < 0 ∨ 6 ≤ p1.toNatClampNeg then none else (
  if p2 < 0 ∨ 4 ≤ p2.toNatClampNeg then none else (
  if nI 1 = 0 ∨ nI 1 = 1 then (
  let σ1 := st σ (2, oa, p1.toNatClampNeg, 0) 0 (nI 1);
  bdI (e_X6_fieldOf oa p1.toNatClampNeg p2.toNatClampNeg (nI 0) (nI 0) σ1) (fun v3 σ2 =>
  let σ4 := st σ2 (2, oa, p1.toNatClampNeg, 0) 1 v3;
  let σ5 := st σ4 (2, oa, p1.toNatClampNeg, 0) 2 p2;
  if nI 1 < 0 ∨ 12 ≤ (nI 1).toNatClampNeg then none else (
  bdI (e_X6_alikeAtFirst oa p1.toNatClampNeg p2.toNatClampNeg (σ5.1 (11, oa, 0, 0) ((nI 1).toNatClampNeg)) σ5) (fun v7 σ6 =>
  let σ8 := st σ6 (2, oa, p1.toNatClampNeg, 0) 3 v7;
  let σ9 := st σ8 (2, oa, p1.toNatClampNeg, 0) 4 (nI 0);
  b_X0_beginExchange_70 oa p1 oa p1.toNatClampNeg oa p1.toNatClampNeg (nI 0) σ9)))) else none)) := (EvOf_eq mcode _).trans rfl
set_option maxRecDepth 100000 in
set_option maxHeartbeats 4000000 in
theorem q_X0_beginExchange_70 (o0a : Nat) (x1 : Int32) (o3a : Nat) (o3s : Nat) (o4a : Nat) (o4s : Nat) (x6 : Int32) (σ : mS) : b_X0_beginExchange_70 o0a x1 o3a o3s o4a o4s x6 σ =
  if x6 < σ.1 (2, o4a, o4s, 0) 3 then (
    bdI (e_X0_placesOf o3a o3s x6 σ) (fun v2 σ1 =>
    let σ3 := st σ1 (2, o4a, o4s, 0) 4 ((σ.1 (2, o4a, o4s, 0) 4) + v2);
    b_X0_beginExchange_70 o0a x1 o3a o3s o4a o4s (x6 + 1) σ3))
  else (
    if nI 0 < 0 ∨ 12 ≤ (nI 0).toNatClampNeg then none else (
    if σ.1 (2, o4a, o4s, 0) 4 < σ.1 (11, o0a, 0, 0) ((nI 0).toNatClampNeg) then (
      if nI 0 = 0 then (
        let σ4 := st σ (2, o4a, o4s, 0) 5 (nI 2);
        if nI 0 = 0 then (
          b_X0_beginExchange_154 o0a x1 o3a o3s o4a o4s (nI 0) o4a o4s (σ4.1 (2, o4a, o4s, 0) 4) σ4)
        else (
          b_X0_beginExchange_154 o0a x1 o3a o3s o4a o4s (nI 0) o4a o4s (nI 1) σ4))
      else (
        let σ5 := st σ (2, o4a, o4s, 0) 5 (nI 0);
        if nI 0 = 0 then (
          b_X0_beginExchange_154 o0a x1 o3a o3s o4a o4s (nI 0) o4a o4s (σ5.1 (2, o4a, o4s, 0) 4) σ5)
        else (
          b_X0_beginExchange_154 o0a x1 o3a o3s o4a o4s (nI 0) o4a o4s (nI 1) σ5)))
    else (
      if nI 1 = 0 then (
        let σ6 := st σ (2, o4a, o4s, 0) 5 (nI 2);
        if nI 1 = 0 then (
          b_X0_beginExchange_154 o0a x1 o3a o3s o4a o4s (nI 1) o4a o4s (σ6.1 (2, o4a, o4s, 0) 4) σ6)
        else (
          b_X0_beginExchange_154 o0a x1 o3a o3s o4a o4s (nI 1) o4a o4s (nI 1) σ6))
      else (
        let σ7 := st σ (2, o4a, o4s, 0) 5 (nI 0);
        if nI 1 = 0 then (
          b_X0_beginExchange_154 o0a x1 o3a o3s o4a o4s (nI 1) o4a o4s (σ7.1 (2, o4a, o4s, 0) 4) σ7)
        else (
          b_X0_beginExchange_154 o0a x1 o3a o3s o4a o4s (nI 1) o4a o4s (nI 1) σ7))))) := (EvOf_eq mcode _).trans rfl
set_option maxRecDepth 100000 in
set_option maxHeartbeats 4000000 in
theorem q_X0_beginExchange_154 (o0a : Nat) (x1 : Int32) (o3a : Nat) (o3s : Nat) (o4a : Nat) (o4s : Nat) (x6 : Int32) (w0a : Nat) (w0s : Nat) (t1 : Int32) (σ : mS) : b_X0_beginExchange_154 o0a x1 o3a o3s o4a o4s x6 w0a w0s t1 σ =
  let σ1 := st σ (2, w0a, w0s, 0) 6 t1;
  if x6 = 0 then (
    let σ2 := st σ1 (2, o4a, o4s, 0) 8 (((σ1.1 (0, o0a, 0, 0) 4) + (σ1.1 (2, o4a, o4s, 0) 4)) + (nI 1));
    let σ3 := st σ2 (2, o4a, o4s, 0) 7 (nI 0);
    let σ4 := st σ3 (2, o4a, o4s, 0) 9 (nI 0);
    let σ5 := st σ4 (2, o4a, o4s, 0) 10 (nI 0);
    bdI (e_X0_placesOf o3a o3s (nI 0) σ5) (fun v7 σ6 =>
    let σ8 := st σ6 (2, o4a, o4s, 0) 11 v7;
    if nI 0 = 0 ∨ nI 0 = 1 then (
    let σ9 := st σ8 (2, o4a, o4s, 0) 12 (nI 0);
    if nI 3 < 0 ∨ 9 ≤ (nI 3).toNatClampNeg then none else (
    if nI 3 < 0 ∨ 9 ≤ (nI 3).toNatClampNeg then none else (
    let σ10 := st σ9 (15, o3a, o3s, 0) ((nI 3).toNatClampNeg) ((σ9.1 (15, o3a, o3s, 0) ((nI 3).toNatClampNeg)) + (nI 1));
    let σ11 := st σ10 (0, o0a, 0, 0) 8 ((σ10.1 (0, o0a, 0, 0) 8) ||| ((nI 1) <<< (x1 &&& 31)));
    some (some none, σ11)))) else none))
  else (
    let σ12 := st σ1 (2, o4a, o4s, 0) 8 (((σ1.1 (0, o0a, 0, 0) 4) + (σ1.1 (2, o4a, o4s, 0) 4)) + (nI 3));
    let σ13 := st σ12 (2, o4a, o4s, 0) 7 (nI 0);
    let σ14 := st σ13 (2, o4a, o4s, 0) 9 (nI 0);
    let σ15 := st σ14 (2, o4a, o4s, 0) 10 (nI 0);
    bdI (e_X0_placesOf o3a o3s (nI 0) σ15) (fun v17 σ16 =>
    let σ18 := st σ16 (2, o4a, o4s, 0) 11 v17;
    if nI 0 = 0 ∨ nI 0 = 1 then (
    let σ19 := st σ18 (2, o4a, o4s, 0) 12 (nI 0);
    if nI 3 < 0 ∨ 9 ≤ (nI 3).toNatClampNeg then none else (
    if nI 3 < 0 ∨ 9 ≤ (nI 3).toNatClampNeg then none else (
    let σ20 := st σ19 (15, o3a, o3s, 0) ((nI 3).toNatClampNeg) ((σ19.1 (15, o3a, o3s, 0) ((nI 3).toNatClampNeg)) + (nI 1));
    let σ21 := st σ20 (0, o0a, 0, 0) 8 ((σ20.1 (0, o0a, 0, 0) 8) ||| ((nI 1) <<< (x1 &&& 31)));
    some (some none, σ21)))) else none)) := (EvOf_eq mcode _).trans rfl
set_option maxRecDepth 100000 in
set_option maxHeartbeats 4000000 in
theorem q_X0_placesOf (p0a : Nat) (p0s : Nat) (p1 : Int32) (σ : mS) : e_X0_placesOf p0a p0s p1 σ =
  if σ.1 (2, p0a, p0s, 0) 1 < 0 then (
    some (some (some (.inl (nI 0))), σ))
  else (
    if σ.1 (2, p0a, p0s, 0) 1 < nI 6 then (
      if σ.1 (2, p0a, p0s, 0) 2 < 0 then (
        some (some (some (.inl (nI 0))), σ))
      else (
        if σ.1 (2, p0a, p0s, 0) 2 < nI 4 then (
          if σ.1 (2, p0a, p0s, 0) 1 < 0 ∨ 6 ≤ (σ.1 (2, p0a, p0s, 0) 1).toNatClampNeg then none else (
          if σ.1 (2, p0a, p0s, 0) 2 < 0 ∨ 4 ≤ (σ.1 (2, p0a, p0s, 0) 2).toNatClampNeg then none else (
          bdI (e_X6_fieldOf p0a p0s ((σ.1 (2, p0a, p0s, 0) 2).toNatClampNeg) p1 (nI 1) σ) (fun v2 σ1 =>
          if (if nI 1 < σ.1 (18, p0a, p0s, 0) ((σ.1 (2, p0a, p0s, 0) 1).toNatClampNeg) then σ.1 (18, p0a, p0s, 0) ((σ.1 (2, p0a, p0s, 0) 1).toNatClampNeg) else nI 1) = 0 then none else (
          some (some (some (.inl ((((if nI 0 < v2 then v2 else nI 0) + (if nI 1 < σ.1 (18, p0a, p0s, 0) ((σ.1 (2, p0a, p0s, 0) 1).toNatClampNeg) then σ.1 (18, p0a, p0s, 0) ((σ.1 (2, p0a, p0s, 0) 1).toNatClampNeg) else nI 1)) - (nI 1)) / (if nI 1 < σ.1 (18, p0a, p0s, 0) ((σ.1 (2, p0a, p0s, 0) 1).toNatClampNeg) then σ.1 (18, p0a, p0s, 0) ((σ.1 (2, p0a, p0s, 0) 1).toNatClampNeg) else nI 1)))), σ1))))))
        else (
          some (some (some (.inl (nI 0))), σ))))
    else (
      some (some (some (.inl (nI 0))), σ))) := (EvOf_eq mcode _).trans rfl
set_option maxRecDepth 100000 in
set_option maxHeartbeats 4000000 in
theorem q_X0_senders (oa : Nat) (σ : mS) : e_X0_senders oa σ =
  b_X0_senders_4 oa (nI 0) (nI 0) σ := (EvOf_eq mcode _).trans rfl
set_option maxRecDepth 100000 in
set_option maxHeartbeats 4000000 in
theorem q_X0_senders_4 (o0a : Nat) (x1 : Int32) (x2 : Int32) (σ : mS) : b_X0_senders_4 o0a x1 x2 σ =
  if x2 < σ.1 (0, o0a, 0, 0) 3 then (
    if x2 < 0 ∨ 6 ≤ x2.toNatClampNeg then none else (
    bdI (e_X2_sends o0a x2.toNatClampNeg σ) (fun v2 σ1 =>
    if v2 = 0 then (
      if σ1.1 (8, o0a, x2.toNatClampNeg, 0) 12 = 0 then (
        b_X0_senders_4 o0a (x1 ||| (nI 0)) (x2 + 1) σ1)
      else (
        b_X0_senders_4 o0a (x1 ||| ((nI 1) <<< (x2 &&& 31))) (x2 + 1) σ1))
    else (
      b_X0_senders_4 o0a (x1 ||| ((nI 1) <<< (x2 &&& 31))) (x2 + 1) σ1))))
  else (
    some (some (some (.inl x1)), σ)) := (EvOf_eq mcode _).trans rfl
set_option maxRecDepth 100000 in
set_option maxHeartbeats 4000000 in
theorem q_X0_sendsNow (oa : Nat) (p1 : Int32) (σ : mS) : e_X0_sendsNow oa p1 σ =
  if ((σ.1 (0, oa, 0, 0) 5) >>> (p1 &&& 31)) &&& (nI 1) = 0 then (
    if nI 0 = 0 ∨ nI 0 = 1 then some (some (some (.inl (nI 0))), σ) else none)
  else (
    if nI 1 = 0 ∨ nI 1 = 1 then some (some (some (.inl (nI 1))), σ) else none) := (EvOf_eq mcode _).trans rfl
set_option maxRecDepth 100000 in
set_option maxHeartbeats 4000000 in
theorem q_X0_isClear (oa : Nat) (p1 : Int32) (p2 : Int32) (σ : mS) : e_X0_isClear oa p1 p2 σ =
  bdI (e_X0_sendsNow oa p1 σ) (fun v2 σ1 =>
  if v2 = 0 then (
    if p1 < 0 ∨ 6 ≤ p1.toNatClampNeg then none else (
    if (σ1.1 (8, oa, p1.toNatClampNeg, 0) 6) &&& (σ1.1 (0, oa, 0, 0) 5) = (nI 1) <<< (p2 &&& 31) then (
      if nI 1 = 0 ∨ nI 1 = 1 then some (some (some (.inl (nI 1))), σ1) else none)
    else (
      if nI 0 = 0 ∨ nI 0 = 1 then some (some (some (.inl (nI 0))), σ1) else none)))
  else (
    if nI 0 = 0 ∨ nI 0 = 1 then some (some (some (.inl (nI 0))), σ1) else none)) := (EvOf_eq mcode _).trans rfl
set_option maxRecDepth 100000 in
set_option maxHeartbeats 4000000 in
theorem q_X0_clearOnes (oa : Nat) (σ : mS) : e_X0_clearOnes oa σ =
  b_X0_clearOnes_4 oa (nI 0) (nI 0) σ := (EvOf_eq mcode _).trans rfl
set_option maxRecDepth 100000 in
set_option maxHeartbeats 4000000 in
theorem q_X0_clearOnes_4 (o0a : Nat) (x1 : Int32) (x2 : Int32) (σ : mS) : b_X0_clearOnes_4 o0a x1 x2 σ =
  if x2 < σ.1 (0, o0a, 0, 0) 3 then (
    if x2 < 0 ∨ 6 ≤ x2.toNatClampNeg then none else (
    bdI (e_J6_bitCount ((σ.1 (8, o0a, x2.toNatClampNeg, 0) 6) &&& (σ.1 (0, o0a, 0, 0) 5)) σ) (fun v2 σ1 =>
    if v2 = nI 1 then (
      if nI 1 = 0 then (
        b_X0_clearOnes_4 o0a (x1 ||| (nI 0)) (x2 + 1) σ1)
      else (
        bdI (e_X0_sendsNow o0a x2 σ1) (fun v4 σ3 =>
        if v4 = 0 then (
          b_X0_clearOnes_4 o0a (x1 ||| ((nI 1) <<< (x2 &&& 31))) (x2 + 1) σ3)
        else (
          b_X0_clearOnes_4 o0a (x1 ||| (nI 0)) (x2 + 1) σ3))))
    else (
      if nI 0 = 0 then (
        b_X0_clearOnes_4 o0a (x1 ||| (nI 0)) (x2 + 1) σ1)
      else (
        bdI (e_X0_sendsNow o0a x2 σ1) (fun v6 σ5 =>
        if v6 = 0 then (
          b_X0_clearOnes_4 o0a (x1 ||| ((nI 1) <<< (x2 &&& 31))) (x2 + 1) σ5)
        else (
          b_X0_clearOnes_4 o0a (x1 ||| (nI 0)) (x2 + 1) σ5)))))))
  else (
    some (some (some (.inl x1)), σ)) := (EvOf_eq mcode _).trans rfl
set_option maxRecDepth 100000 in
set_option maxHeartbeats 4000000 in
theorem q_X0_noteSlot (oa : Nat) (σ : mS) : e_X0_noteSlot oa σ =
  bdI (e_J6_bitCount (σ.1 (0, oa, 0, 0) 5) σ) (fun v2 σ1 =>
  if v2 = 0 then (
    let σ3 := st σ1 (0, oa, 0, 0) 10 ((σ1.1 (0, oa, 0, 0) 10) + (nI 1));
    if v2 = nI 1 then (
      let σ4 := st σ3 (0, oa, 0, 0) 9 ((σ3.1 (0, oa, 0, 0) 9) + (nI 1));
      if nI 1 < v2 then (
        let σ5 := st σ4 (0, oa, 0, 0) 11 ((σ4.1 (0, oa, 0, 0) 11) + (nI 1));
        b_X0_noteSlot_66 oa (nI 0) σ5)
      else (
        let σ6 := st σ4 (0, oa, 0, 0) 11 ((σ4.1 (0, oa, 0, 0) 11) + (nI 0));
        b_X0_noteSlot_66 oa (nI 0) σ6))
    else (
      let σ7 := st σ3 (0, oa, 0, 0) 9 ((σ3.1 (0, oa, 0, 0) 9) + (nI 0));
      if nI 1 < v2 then (
        let σ8 := st σ7 (0, oa, 0, 0) 11 ((σ7.1 (0, oa, 0, 0) 11) + (nI 1));
        b_X0_noteSlot_66 oa (nI 0) σ8)
      else (
        let σ9 := st σ7 (0, oa, 0, 0) 11 ((σ7.1 (0, oa, 0, 0) 11) + (nI 0));
        b_X0_noteSlot_66 oa (nI 0) σ9)))
  else (
    let σ10 := st σ1 (0, oa, 0, 0) 10 ((σ1.1 (0, oa, 0, 0) 10) + (nI 0));
    if v2 = nI 1 then (
      let σ11 := st σ10 (0, oa, 0, 0) 9 ((σ10.1 (0, oa, 0, 0) 9) + (nI 1));
      if nI 1 < v2 then (
        let σ12 := st σ11 (0, oa, 0, 0) 11 ((σ11.1 (0, oa, 0, 0) 11) + (nI 1));
        b_X0_noteSlot_66 oa (nI 0) σ12)
      else (
        let σ13 := st σ11 (0, oa, 0, 0) 11 ((σ11.1 (0, oa, 0, 0) 11) + (nI 0));
        b_X0_noteSlot_66 oa (nI 0) σ13))
    else (
      let σ14 := st σ10 (0, oa, 0, 0) 9 ((σ10.1 (0, oa, 0, 0) 9) + (nI 0));
      if nI 1 < v2 then (
        let σ15 := st σ14 (0, oa, 0, 0) 11 ((σ14.1 (0, oa, 0, 0) 11) + (nI 1));
        b_X0_noteSlot_66 oa (nI 0) σ15)
      else (
        let σ16 := st σ14 (0, oa, 0, 0) 11 ((σ14.1 (0, oa, 0, 0) 11) + (nI 0));
        b_X0_noteSlot_66 oa (nI 0) σ16)))) := (EvOf_eq mcode _).trans rfl
set_option maxRecDepth 100000 in
set_option maxHeartbeats 4000000 in
theorem q_X0_noteSlot_66 (o0a : Nat) (x2 : Int32) (σ : mS) : b_X0_noteSlot_66 o0a x2 σ =
  if x2 < σ.1 (0, o0a, 0, 0) 3 then (
    if x2 < 0 ∨ 6 ≤ x2.toNatClampNeg then none else (
    if nI 5 < 0 ∨ 9 ≤ (nI 5).toNatClampNeg then none else (
    bdI (e_X0_sendsNow o0a x2 σ) (fun v2 σ1 =>
    if v2 = 0 then (
      if nI 5 < 0 ∨ 9 ≤ (nI 5).toNatClampNeg then none else (
      let σ3 := st σ1 (15, o0a, x2.toNatClampNeg, 0) ((nI 5).toNatClampNeg) ((σ.1 (15, o0a, x2.toNatClampNeg, 0) ((nI 5).toNatClampNeg)) + (nI 0));
      bdI (e_X8_isFree o0a x2.toNatClampNeg σ3) (fun v5 σ4 =>
      if v5 = 0 then (
        b_X0_noteSlot_66 o0a (x2 + 1) σ4)
      else (
        bdI (e_X8_waiting o0a x2.toNatClampNeg σ4) (fun v7 σ6 =>
        if 0 < v7 then (
          if ((σ6.1 (0, o0a, 0, 0) 7) >>> (x2 &&& 31)) &&& (nI 1) = 0 then (
            if (σ6.1 (8, o0a, x2.toNatClampNeg, 0) 6) &&& (σ6.1 (0, o0a, 0, 0) 5) = 0 then (
              let σ8 := st σ6 (3, o0a, x2.toNatClampNeg, 0) 8 ((σ6.1 (3, o0a, x2.toNatClampNeg, 0) 8) + (nI 1));
              b_X0_noteSlot_66 o0a (x2 + 1) σ8)
            else (
              let σ9 := st σ6 (3, o0a, x2.toNatClampNeg, 0) 7 ((σ6.1 (3, o0a, x2.toNatClampNeg, 0) 7) + (nI 1));
              b_X0_noteSlot_66 o0a (x2 + 1) σ9))
          else (
            let σ10 := st σ6 (3, o0a, x2.toNatClampNeg, 0) 6 ((σ6.1 (3, o0a, x2.toNatClampNeg, 0) 6) + (nI 1));
            b_X0_noteSlot_66 o0a (x2 + 1) σ10))
        else (
          b_X0_noteSlot_66 o0a (x2 + 1) σ6))))))
    else (
      if nI 5 < 0 ∨ 9 ≤ (nI 5).toNatClampNeg then none else (
      let σ11 := st σ1 (15, o0a, x2.toNatClampNeg, 0) ((nI 5).toNatClampNeg) ((σ.1 (15, o0a, x2.toNatClampNeg, 0) ((nI 5).toNatClampNeg)) + (nI 1));
      bdI (e_X8_isFree o0a x2.toNatClampNeg σ11) (fun v13 σ12 =>
      if v13 = 0 then (
        b_X0_noteSlot_66 o0a (x2 + 1) σ12)
      else (
        bdI (e_X8_waiting o0a x2.toNatClampNeg σ12) (fun v15 σ14 =>
        if 0 < v15 then (
          if ((σ14.1 (0, o0a, 0, 0) 7) >>> (x2 &&& 31)) &&& (nI 1) = 0 then (
            if (σ14.1 (8, o0a, x2.toNatClampNeg, 0) 6) &&& (σ14.1 (0, o0a, 0, 0) 5) = 0 then (
              let σ16 := st σ14 (3, o0a, x2.toNatClampNeg, 0) 8 ((σ14.1 (3, o0a, x2.toNatClampNeg, 0) 8) + (nI 1));
              b_X0_noteSlot_66 o0a (x2 + 1) σ16)
            else (
              let σ17 := st σ14 (3, o0a, x2.toNatClampNeg, 0) 7 ((σ14.1 (3, o0a, x2.toNatClampNeg, 0) 7) + (nI 1));
              b_X0_noteSlot_66 o0a (x2 + 1) σ17))
          else (
            let σ18 := st σ14 (3, o0a, x2.toNatClampNeg, 0) 6 ((σ14.1 (3, o0a, x2.toNatClampNeg, 0) 6) + (nI 1));
            b_X0_noteSlot_66 o0a (x2 + 1) σ18))
        else (
          b_X0_noteSlot_66 o0a (x2 + 1) σ14))))))))))
  else (
    some (some none, σ)) := (EvOf_eq mcode _).trans rfl
set_option maxRecDepth 100000 in
set_option maxHeartbeats 4000000 in
theorem q_X0_spread (oa : Nat) (p1 : Int32) (p2 : Int32) (p3 : Int32) (p4 : Int32) (p5 : Int32) (σ : mS) : e_X0_spread oa p1 p2 p3 p4 p5 σ =
  b_X0_spread_3 oa p1 p2 p3 p4 p5 (nI 0) σ := (EvOf_eq mcode _).trans rfl
set_option maxRecDepth 100000 in
set_option maxHeartbeats 4000000 in
theorem q_X0_spread_3 (o0a : Nat) (x1 : Int32) (x2 : Int32) (x3 : Int32) (x4 : Int32) (x5 : Int32) (x6 : Int32) (σ : mS) : b_X0_spread_3 o0a x1 x2 x3 x4 x5 x6 σ =
  if x6 < σ.1 (0, o0a, 0, 0) 3 then (
    if x6 = x2 then (
      b_X0_spread_3 o0a x1 x2 x3 x4 x5 (x6 + 1) σ)
    else (
      bdI (e_X0_isClear o0a x6 x1 σ) (fun v2 σ1 =>
      if v2 = 0 then (
        b_X0_spread_3 o0a x1 x2 x3 x4 x5 (x6 + 1) σ1)
      else (
        if x6 < 0 ∨ 6 ≤ x6.toNatClampNeg then none else (
        bdV (e_X8_listen o0a x6.toNatClampNeg x3 x4 x5 σ1) (fun σ3 =>
        b_X0_spread_3 o0a x1 x2 x3 x4 x5 (x6 + 1) σ3))))))
  else (
    some (some none, σ)) := (EvOf_eq mcode _).trans rfl
set_option maxRecDepth 100000 in
set_option maxHeartbeats 4000000 in
theorem q_X0_goAsk (oa : Nat) (p1 : Int32) (p2 : Int32) (p3a : Nat) (p3s : Nat) (σ : mS) : e_X0_goAsk oa p1 p2 p3a p3s σ =
  bdI (e_X0_isClear oa p2 p1 σ) (fun v2 σ1 =>
  if v2 = 0 then (
    let σ3 := st σ1 (2, p3a, p3s, 0) 9 (nI 1);
    bdV (e_X0_spread oa p1 p2 p1 (nI 0) (σ3.1 (2, p3a, p3s, 0) 8) σ3) (fun σ4 =>
    let σ5 := st σ4 (2, p3a, p3s, 0) 5 (nI 1);
    some (some none, σ5)))
  else (
    if p2 < 0 ∨ 6 ≤ p2.toNatClampNeg then none else (
    bdI (e_X8_isFree oa p2.toNatClampNeg σ1) (fun v7 σ6 =>
    if v7 = 0 then (
      let σ8 := st σ6 (2, p3a, p3s, 0) 9 (nI 2);
      bdV (e_X0_spread oa p1 p2 p1 (nI 0) (σ8.1 (2, p3a, p3s, 0) 8) σ8) (fun σ9 =>
      let σ10 := st σ9 (2, p3a, p3s, 0) 5 (nI 1);
      some (some none, σ10)))
    else (
      if p2 < 0 ∨ 6 ≤ p2.toNatClampNeg then none else (
      if σ6.1 (0, oa, 0, 0) 4 < σ6.1 (8, oa, p2.toNatClampNeg, 0) 8 then (
        let σ11 := st σ6 (2, p3a, p3s, 0) 9 (nI 3);
        bdV (e_X0_spread oa p1 p2 p1 (nI 0) (σ11.1 (2, p3a, p3s, 0) 8) σ11) (fun σ12 =>
        let σ13 := st σ12 (2, p3a, p3s, 0) 5 (nI 1);
        some (some none, σ13)))
      else (
        if p2 < 0 ∨ 6 ≤ p2.toNatClampNeg then none else (
        bdV (e_X8_setOwing oa p2.toNatClampNeg p1 (nI 1) σ6) (fun σ14 =>
        bdV (e_X0_spread oa p1 p2 p1 (nI 0) (σ14.1 (2, p3a, p3s, 0) 8) σ14) (fun σ15 =>
        let σ16 := st σ15 (2, p3a, p3s, 0) 5 (nI 1);
        some (some none, σ16))))))))))) := (EvOf_eq mcode _).trans rfl
set_option maxRecDepth 100000 in
set_option maxHeartbeats 4000000 in
theorem q_X0_goGrant (oa : Nat) (p1 : Int32) (p2 : Int32) (p3a : Nat) (p3s : Nat) (σ : mS) : e_X0_goGrant oa p1 p2 p3a p3s σ =
  if p2 < 0 ∨ 6 ≤ p2.toNatClampNeg then none else (
  bdI (e_X8_pays oa p2.toNatClampNeg p1 (nI 1) σ) (fun v2 σ1 =>
  if v2 = 0 then (
    if v2 = 0 then (
      let σ3 := st σ1 (2, p3a, p3s, 0) 9 (σ1.1 (2, p3a, p3s, 0) 9);
      bdV (e_X0_failExchange oa p1 p3a p3s σ3) (fun σ4 =>
      some (some none, σ4)))
    else (
      let σ5 := st σ1 (2, p3a, p3s, 0) 9 (nI 4);
      bdV (e_X0_failExchange oa p1 p3a p3s σ5) (fun σ6 =>
      some (some none, σ6))))
  else (
    bdI (e_X0_isClear oa p1 p2 σ1) (fun v8 σ7 =>
    if v8 = 0 then (
      if v2 = 0 then (
        let σ9 := st σ7 (2, p3a, p3s, 0) 9 (σ7.1 (2, p3a, p3s, 0) 9);
        bdV (e_X0_failExchange oa p1 p3a p3s σ9) (fun σ10 =>
        some (some none, σ10)))
      else (
        let σ11 := st σ7 (2, p3a, p3s, 0) 9 (nI 4);
        bdV (e_X0_failExchange oa p1 p3a p3s σ11) (fun σ12 =>
        some (some none, σ12))))
    else (
      let σ13 := st σ7 (2, p3a, p3s, 0) 5 (nI 2);
      let σ14 := st σ13 (2, p3a, p3s, 0) 6 (σ13.1 (2, p3a, p3s, 0) 4);
      bdV (e_X0_spread oa p2 p1 p1 (nI 1) (σ14.1 (2, p3a, p3s, 0) 8) σ14) (fun σ15 =>
      some (some none, σ15))))))) := (EvOf_eq mcode _).trans rfl
set_option maxRecDepth 100000 in
set_option maxHeartbeats 4000000 in
theorem q_X0_goData (oa : Nat) (p1 : Int32) (p2 : Int32) (p3a : Nat) (p3s : Nat) (σ : mS) : e_X0_goData oa p1 p2 p3a p3s σ =
  bdI (e_X0_isClear oa p2 p1 σ) (fun v2 σ1 =>
  if p1 < 0 ∨ 6 ≤ p1.toNatClampNeg then none else (
  let σ3 := st σ1 (3, oa, p1.toNatClampNeg, 0) 2 ((σ1.1 (3, oa, p1.toNatClampNeg, 0) 2) + (nI 1));
  if v2 = 0 then (
    if p1 < 0 ∨ 6 ≤ p1.toNatClampNeg then none else (
    if p2 < 0 ∨ 6 ≤ p2.toNatClampNeg then none else (
    bdV (e_X0_noteSpoilt oa p1.toNatClampNeg ((σ3.1 (8, oa, p2.toNatClampNeg, 0) 6) &&& (σ3.1 (0, oa, 0, 0) 5)) σ3) (fun σ4 =>
    if p1 < 0 ∨ 6 ≤ p1.toNatClampNeg then none else (
    bdV (e_X0_goPlace oa p1.toNatClampNeg v2 σ4) (fun σ5 =>
    let σ6 := st σ5 (2, p3a, p3s, 0) 6 ((σ5.1 (2, p3a, p3s, 0) 6) - (nI 1));
    if 0 < σ6.1 (2, p3a, p3s, 0) 6 then (
      some (some none, σ6))
    else (
      bdV (e_X0_spread oa p1 p2 p1 (nI 2) ((σ6.1 (0, oa, 0, 0) 4) + (nI 2)) σ6) (fun σ7 =>
      if σ7.1 (2, p3a, p3s, 0) 7 = 0 then (
        let σ8 := st σ7 (2, p3a, p3s, 0) 9 (nI 5);
        let σ9 := st σ8 (2, p3a, p3s, 0) 5 (nI 3);
        some (some none, σ9))
      else (
        if p2 < 0 ∨ 6 ≤ p2.toNatClampNeg then none else (
        bdI (e_X8_isFree oa p2.toNatClampNeg σ7) (fun v11 σ10 =>
        if v11 = 0 then (
          let σ12 := st σ10 (2, p3a, p3s, 0) 9 (nI 6);
          let σ13 := st σ12 (2, p3a, p3s, 0) 5 (nI 3);
          some (some none, σ13))
        else (
          if p2 < 0 ∨ 6 ≤ p2.toNatClampNeg then none else (
          bdV (e_X8_setOwing oa p2.toNatClampNeg p1 (nI 2) σ10) (fun σ14 =>
          let σ15 := st σ14 (2, p3a, p3s, 0) 5 (nI 3);
          some (some none, σ15)))))))))))))))
  else (
    if p1 < 0 ∨ 6 ≤ p1.toNatClampNeg then none else (
    bdV (e_X0_goPlace oa p1.toNatClampNeg v2 σ3) (fun σ16 =>
    let σ17 := st σ16 (2, p3a, p3s, 0) 6 ((σ16.1 (2, p3a, p3s, 0) 6) - (nI 1));
    if 0 < σ17.1 (2, p3a, p3s, 0) 6 then (
      some (some none, σ17))
    else (
      bdV (e_X0_spread oa p1 p2 p1 (nI 2) ((σ17.1 (0, oa, 0, 0) 4) + (nI 2)) σ17) (fun σ18 =>
      if σ18.1 (2, p3a, p3s, 0) 7 = 0 then (
        let σ19 := st σ18 (2, p3a, p3s, 0) 9 (nI 5);
        let σ20 := st σ19 (2, p3a, p3s, 0) 5 (nI 3);
        some (some none, σ20))
      else (
        if p2 < 0 ∨ 6 ≤ p2.toNatClampNeg then none else (
        bdI (e_X8_isFree oa p2.toNatClampNeg σ18) (fun v22 σ21 =>
        if v22 = 0 then (
          let σ23 := st σ21 (2, p3a, p3s, 0) 9 (nI 6);
          let σ24 := st σ23 (2, p3a, p3s, 0) 5 (nI 3);
          some (some none, σ24))
        else (
          if p2 < 0 ∨ 6 ≤ p2.toNatClampNeg then none else (
          bdV (e_X8_setOwing oa p2.toNatClampNeg p1 (nI 2) σ21) (fun σ25 =>
          let σ26 := st σ25 (2, p3a, p3s, 0) 5 (nI 3);
          some (some none, σ26)))))))))))))) := (EvOf_eq mcode _).trans rfl
set_option maxRecDepth 100000 in
set_option maxHeartbeats 4000000 in
theorem q_X0_noteSpoilt (p0a : Nat) (p0s : Nat) (p1 : Int32) (σ : mS) : e_X0_noteSpoilt p0a p0s p1 σ =
  b_X0_noteSpoilt_2 p0a p0s p1 (nI 0) σ := (EvOf_eq mcode _).trans rfl
set_option maxRecDepth 100000 in
set_option maxHeartbeats 4000000 in
theorem q_X0_noteSpoilt_2 (o0a : Nat) (o0s : Nat) (x1 : Int32) (x2 : Int32) (σ : mS) : b_X0_noteSpoilt_2 o0a o0s x1 x2 σ =
  if x2 < nI 6 then (
    if x2 < 0 ∨ 6 ≤ x2.toNatClampNeg then none else (
    if (x1 >>> (x2 &&& 31)) &&& (nI 1) = 0 then (
      if x2 < 0 ∨ 6 ≤ x2.toNatClampNeg then none else (
      let σ1 := st σ (16, o0a, o0s, 0) x2.toNatClampNeg ((σ.1 (16, o0a, o0s, 0) x2.toNatClampNeg) + (nI 0));
      b_X0_noteSpoilt_2 o0a o0s x1 (x2 + 1) σ1))
    else (
      if x2 < 0 ∨ 6 ≤ x2.toNatClampNeg then none else (
      let σ2 := st σ (16, o0a, o0s, 0) x2.toNatClampNeg ((σ.1 (16, o0a, o0s, 0) x2.toNatClampNeg) + (nI 1));
      b_X0_noteSpoilt_2 o0a o0s x1 (x2 + 1) σ2))))
  else (
    some (some none, σ)) := (EvOf_eq mcode _).trans rfl
set_option maxRecDepth 100000 in
set_option maxHeartbeats 4000000 in
theorem q_X0_goPlace (p0a : Nat) (p0s : Nat) (p1 : Int32) (σ : mS) : e_X0_goPlace p0a p0s p1 σ =
  if p1 = 0 then (
    if nI 1 = 0 ∨ nI 1 = 1 then (
    let σ1 := st σ (2, p0a, p0s, 0) 12 (nI 1);
    let σ2 := st σ1 (2, p0a, p0s, 0) 11 ((σ1.1 (2, p0a, p0s, 0) 11) - (nI 1));
    if 0 < σ2.1 (2, p0a, p0s, 0) 11 then (
      some (some none, σ2))
    else (
      if σ2.1 (2, p0a, p0s, 0) 12 = 0 then (
        let σ3 := st σ2 (2, p0a, p0s, 0) 7 ((σ2.1 (2, p0a, p0s, 0) 7) ||| ((nI 1) <<< ((σ2.1 (2, p0a, p0s, 0) 10) &&& 31)));
        let σ4 := st σ3 (2, p0a, p0s, 0) 10 ((σ3.1 (2, p0a, p0s, 0) 10) + (nI 1));
        bdI (e_X0_placesOf p0a p0s (σ4.1 (2, p0a, p0s, 0) 10) σ4) (fun v6 σ5 =>
        let σ7 := st σ5 (2, p0a, p0s, 0) 11 v6;
        if nI 0 = 0 ∨ nI 0 = 1 then (
        let σ8 := st σ7 (2, p0a, p0s, 0) 12 (nI 0);
        some (some none, σ8)) else none))
      else (
        let σ9 := st σ2 (2, p0a, p0s, 0) 7 ((σ2.1 (2, p0a, p0s, 0) 7) ||| (nI 0));
        let σ10 := st σ9 (2, p0a, p0s, 0) 10 ((σ9.1 (2, p0a, p0s, 0) 10) + (nI 1));
        bdI (e_X0_placesOf p0a p0s (σ10.1 (2, p0a, p0s, 0) 10) σ10) (fun v12 σ11 =>
        let σ13 := st σ11 (2, p0a, p0s, 0) 11 v12;
        if nI 0 = 0 ∨ nI 0 = 1 then (
        let σ14 := st σ13 (2, p0a, p0s, 0) 12 (nI 0);
        some (some none, σ14)) else none)))) else none)
  else (
    if σ.1 (2, p0a, p0s, 0) 1 < 0 ∨ 6 ≤ (σ.1 (2, p0a, p0s, 0) 1).toNatClampNeg then none else (
    if σ.1 (2, p0a, p0s, 0) 1 < 0 ∨ 6 ≤ (σ.1 (2, p0a, p0s, 0) 1).toNatClampNeg then none else (
    if σ.1 (17, p0a, p0s, 0) ((σ.1 (2, p0a, p0s, 0) 1).toNatClampNeg) < σ.1 (18, p0a, p0s, 0) ((σ.1 (2, p0a, p0s, 0) 1).toNatClampNeg) then (
      if nI 1 = 0 ∨ nI 1 = 1 then (
      let σ15 := st σ (2, p0a, p0s, 0) 12 (nI 1);
      let σ16 := st σ15 (2, p0a, p0s, 0) 11 ((σ15.1 (2, p0a, p0s, 0) 11) - (nI 1));
      if 0 < σ16.1 (2, p0a, p0s, 0) 11 then (
        some (some none, σ16))
      else (
        if σ16.1 (2, p0a, p0s, 0) 12 = 0 then (
          let σ17 := st σ16 (2, p0a, p0s, 0) 7 ((σ16.1 (2, p0a, p0s, 0) 7) ||| ((nI 1) <<< ((σ16.1 (2, p0a, p0s, 0) 10) &&& 31)));
          let σ18 := st σ17 (2, p0a, p0s, 0) 10 ((σ17.1 (2, p0a, p0s, 0) 10) + (nI 1));
          bdI (e_X0_placesOf p0a p0s (σ18.1 (2, p0a, p0s, 0) 10) σ18) (fun v20 σ19 =>
          let σ21 := st σ19 (2, p0a, p0s, 0) 11 v20;
          if nI 0 = 0 ∨ nI 0 = 1 then (
          let σ22 := st σ21 (2, p0a, p0s, 0) 12 (nI 0);
          some (some none, σ22)) else none))
        else (
          let σ23 := st σ16 (2, p0a, p0s, 0) 7 ((σ16.1 (2, p0a, p0s, 0) 7) ||| (nI 0));
          let σ24 := st σ23 (2, p0a, p0s, 0) 10 ((σ23.1 (2, p0a, p0s, 0) 10) + (nI 1));
          bdI (e_X0_placesOf p0a p0s (σ24.1 (2, p0a, p0s, 0) 10) σ24) (fun v26 σ25 =>
          let σ27 := st σ25 (2, p0a, p0s, 0) 11 v26;
          if nI 0 = 0 ∨ nI 0 = 1 then (
          let σ28 := st σ27 (2, p0a, p0s, 0) 12 (nI 0);
          some (some none, σ28)) else none)))) else none)
    else (
      let σ29 := st σ (2, p0a, p0s, 0) 11 ((σ.1 (2, p0a, p0s, 0) 11) - (nI 1));
      if 0 < σ29.1 (2, p0a, p0s, 0) 11 then (
        some (some none, σ29))
      else (
        if σ29.1 (2, p0a, p0s, 0) 12 = 0 then (
          let σ30 := st σ29 (2, p0a, p0s, 0) 7 ((σ29.1 (2, p0a, p0s, 0) 7) ||| ((nI 1) <<< ((σ29.1 (2, p0a, p0s, 0) 10) &&& 31)));
          let σ31 := st σ30 (2, p0a, p0s, 0) 10 ((σ30.1 (2, p0a, p0s, 0) 10) + (nI 1));
          bdI (e_X0_placesOf p0a p0s (σ31.1 (2, p0a, p0s, 0) 10) σ31) (fun v33 σ32 =>
          let σ34 := st σ32 (2, p0a, p0s, 0) 11 v33;
          if nI 0 = 0 ∨ nI 0 = 1 then (
          let σ35 := st σ34 (2, p0a, p0s, 0) 12 (nI 0);
          some (some none, σ35)) else none))
        else (
          let σ36 := st σ29 (2, p0a, p0s, 0) 7 ((σ29.1 (2, p0a, p0s, 0) 7) ||| (nI 0));
          let σ37 := st σ36 (2, p0a, p0s, 0) 10 ((σ36.1 (2, p0a, p0s, 0) 10) + (nI 1));
          bdI (e_X0_placesOf p0a p0s (σ37.1 (2, p0a, p0s, 0) 10) σ37) (fun v39 σ38 =>
          let σ40 := st σ38 (2, p0a, p0s, 0) 11 v39;
          if nI 0 = 0 ∨ nI 0 = 1 then (
          let σ41 := st σ40 (2, p0a, p0s, 0) 12 (nI 0);
          some (some none, σ41)) else none))))))) := (EvOf_eq mcode _).trans rfl
set_option maxRecDepth 100000 in
set_option maxHeartbeats 4000000 in
theorem q_X0_goAnswer (oa : Nat) (p1 : Int32) (p2 : Int32) (p3a : Nat) (p3s : Nat) (σ : mS) : e_X0_goAnswer oa p1 p2 p3a p3s σ =
  if p2 < 0 ∨ 6 ≤ p2.toNatClampNeg then none else (
  bdI (e_X8_pays oa p2.toNatClampNeg p1 (nI 2) σ) (fun v2 σ1 =>
  if p1 < 0 ∨ 6 ≤ p1.toNatClampNeg then none else (
  if v2 = 0 then (
    if v2 = 0 then (
      let σ3 := st σ1 (2, p3a, p3s, 0) 9 (σ1.1 (2, p3a, p3s, 0) 9);
      bdV (e_X0_failExchange oa p1 p3a p3s σ3) (fun σ4 =>
      if p2 < 0 ∨ 6 ≤ p2.toNatClampNeg then none else (
      if p2 < 0 ∨ 6 ≤ p2.toNatClampNeg then none else (
      let σ5 := st σ4 (18, oa, p1.toNatClampNeg, 0) p2.toNatClampNeg (if nI 1 < (σ4.1 (18, oa, p1.toNatClampNeg, 0) p2.toNatClampNeg) - (nI 1) then (σ4.1 (18, oa, p1.toNatClampNeg, 0) p2.toNatClampNeg) - (nI 1) else nI 1);
      if p2 < 0 ∨ 6 ≤ p2.toNatClampNeg then none else (
      let σ6 := st σ5 (19, oa, p1.toNatClampNeg, 0) p2.toNatClampNeg (nI 0);
      some (some none, σ6))))))
    else (
      let σ7 := st σ1 (2, p3a, p3s, 0) 9 (nI 7);
      bdV (e_X0_failExchange oa p1 p3a p3s σ7) (fun σ8 =>
      if p2 < 0 ∨ 6 ≤ p2.toNatClampNeg then none else (
      if p2 < 0 ∨ 6 ≤ p2.toNatClampNeg then none else (
      let σ9 := st σ8 (18, oa, p1.toNatClampNeg, 0) p2.toNatClampNeg (if nI 1 < (σ8.1 (18, oa, p1.toNatClampNeg, 0) p2.toNatClampNeg) - (nI 1) then (σ8.1 (18, oa, p1.toNatClampNeg, 0) p2.toNatClampNeg) - (nI 1) else nI 1);
      if p2 < 0 ∨ 6 ≤ p2.toNatClampNeg then none else (
      let σ10 := st σ9 (19, oa, p1.toNatClampNeg, 0) p2.toNatClampNeg (nI 0);
      some (some none, σ10)))))))
  else (
    bdI (e_X0_isClear oa p1 p2 σ1) (fun v12 σ11 =>
    if v12 = 0 then (
      if v2 = 0 then (
        let σ13 := st σ11 (2, p3a, p3s, 0) 9 (σ11.1 (2, p3a, p3s, 0) 9);
        bdV (e_X0_failExchange oa p1 p3a p3s σ13) (fun σ14 =>
        if p2 < 0 ∨ 6 ≤ p2.toNatClampNeg then none else (
        if p2 < 0 ∨ 6 ≤ p2.toNatClampNeg then none else (
        let σ15 := st σ14 (18, oa, p1.toNatClampNeg, 0) p2.toNatClampNeg (if nI 1 < (σ14.1 (18, oa, p1.toNatClampNeg, 0) p2.toNatClampNeg) - (nI 1) then (σ14.1 (18, oa, p1.toNatClampNeg, 0) p2.toNatClampNeg) - (nI 1) else nI 1);
        if p2 < 0 ∨ 6 ≤ p2.toNatClampNeg then none else (
        let σ16 := st σ15 (19, oa, p1.toNatClampNeg, 0) p2.toNatClampNeg (nI 0);
        some (some none, σ16))))))
      else (
        let σ17 := st σ11 (2, p3a, p3s, 0) 9 (nI 7);
        bdV (e_X0_failExchange oa p1 p3a p3s σ17) (fun σ18 =>
        if p2 < 0 ∨ 6 ≤ p2.toNatClampNeg then none else (
        if p2 < 0 ∨ 6 ≤ p2.toNatClampNeg then none else (
        let σ19 := st σ18 (18, oa, p1.toNatClampNeg, 0) p2.toNatClampNeg (if nI 1 < (σ18.1 (18, oa, p1.toNatClampNeg, 0) p2.toNatClampNeg) - (nI 1) then (σ18.1 (18, oa, p1.toNatClampNeg, 0) p2.toNatClampNeg) - (nI 1) else nI 1);
        if p2 < 0 ∨ 6 ≤ p2.toNatClampNeg then none else (
        let σ20 := st σ19 (19, oa, p1.toNatClampNeg, 0) p2.toNatClampNeg (nI 0);
        some (some none, σ20)))))))
    else (
      if nI 0 = 0 ∨ nI 0 = 1 then (
      let σ21 := st σ11 (2, p3a, p3s, 0) 0 (nI 0);
      bdV (e_X0_deliver oa p1 p3a p3s σ21) (fun σ22 =>
      if p2 < 0 ∨ 6 ≤ p2.toNatClampNeg then none else (
      if p2 < 0 ∨ 6 ≤ p2.toNatClampNeg then none else (
      let σ23 := st σ22 (19, oa, p1.toNatClampNeg, 0) p2.toNatClampNeg ((σ22.1 (19, oa, p1.toNatClampNeg, 0) p2.toNatClampNeg) + (nI 1));
      if p2 < 0 ∨ 6 ≤ p2.toNatClampNeg then none else (
      if σ23.1 (19, oa, p1.toNatClampNeg, 0) p2.toNatClampNeg < nI 3 then (
        some (some none, σ23))
      else (
        if p2 < 0 ∨ 6 ≤ p2.toNatClampNeg then none else (
        if p2 < 0 ∨ 6 ≤ p2.toNatClampNeg then none else (
        let σ24 := st σ23 (18, oa, p1.toNatClampNeg, 0) p2.toNatClampNeg (if (σ23.1 (18, oa, p1.toNatClampNeg, 0) p2.toNatClampNeg) + (nI 1) < nI 3 then (σ23.1 (18, oa, p1.toNatClampNeg, 0) p2.toNatClampNeg) + (nI 1) else nI 3);
        if p2 < 0 ∨ 6 ≤ p2.toNatClampNeg then none else (
        let σ25 := st σ24 (19, oa, p1.toNatClampNeg, 0) p2.toNatClampNeg (nI 0);
        some (some none, σ25)))))))))) else none)))))) := (EvOf_eq mcode _).trans rfl
set_option maxRecDepth 100000 in
set_option maxHeartbeats 4000000 in
theorem q_X0_deliver (oa : Nat) (p1 : Int32) (p2a : Nat) (p2s : Nat) (σ : mS) : e_X0_deliver oa p1 p2a p2s σ =
  if p1 < 0 ∨ 6 ≤ p1.toNatClampNeg then none else (
  if σ.1 (2, p2a, p2s, 0) 2 < 0 ∨ 4 ≤ (σ.1 (2, p2a, p2s, 0) 2).toNatClampNeg then none else (
  b_X0_deliver_26 oa p2a p2s oa p1.toNatClampNeg oa p1.toNatClampNeg ((σ.1 (2, p2a, p2s, 0) 2).toNatClampNeg) ((σ.1 (2, p2a, p2s, 0) 3) - (nI 1)) σ)) := (EvOf_eq mcode _).trans rfl
set_option maxRecDepth 100000 in
set_option maxHeartbeats 4000000 in
theorem q_X0_deliver_26 (o0a : Nat) (o2a : Nat) (o2s : Nat) (o3a : Nat) (o3s : Nat) (o4a : Nat) (o4s : Nat) (o4r : Nat) (x5 : Int32) (σ : mS) : b_X0_deliver_26 o0a o2a o2s o3a o3s o4a o4s o4r x5 σ =
  if x5 < 0 then (
    if (nI 7) + (σ.1 (2, o2a, o2s, 0) 2) < 0 ∨ 12 ≤ ((nI 7) + (σ.1 (2, o2a, o2s, 0) 2)).toNatClampNeg then none else (
    let σ1 := st σ (6, o4a, o4s, o4r) 2 (σ.1 (11, o0a, 0, 0) (((nI 7) + (σ.1 (2, o2a, o2s, 0) 2)).toNatClampNeg));
    bdI (e_X1_draw o0a ((σ1.1 (6, o4a, o4s, o4r) 2) + (nI 1)) σ1) (fun v3 σ2 =>
    let σ4 := st σ2 (6, o4a, o4s, o4r) 3 v3;
    some (some none, σ4))))
  else (
    if ((σ.1 (2, o2a, o2s, 0) 7) >>> (x5 &&& 31)) &&& (nI 1) = 0 then (
      bdI (e_X6_tryAgain o4a o4s o4r x5 σ) (fun v6 σ5 =>
      if nI 2 < 0 ∨ 12 ≤ (nI 2).toNatClampNeg then none else (
      if v6 < σ5.1 (11, o0a, 0, 0) ((nI 2).toNatClampNeg) then (
        b_X0_deliver_26 o0a o2a o2s o3a o3s o4a o4s o4r (x5 + (-1)) σ5)
      else (
        if nI 2 < 0 ∨ 9 ≤ (nI 2).toNatClampNeg then none else (
        if nI 2 < 0 ∨ 9 ≤ (nI 2).toNatClampNeg then none else (
        let σ7 := st σ5 (15, o3a, o3s, 0) ((nI 2).toNatClampNeg) ((σ5.1 (15, o3a, o3s, 0) ((nI 2).toNatClampNeg)) + (nI 1));
        bdV (e_X6_removeAt o4a o4s o4r x5 σ7) (fun σ8 =>
        b_X0_deliver_26 o0a o2a o2s o3a o3s o4a o4s o4r (x5 + (-1)) σ8)))))))
    else (
      bdI (e_X6_fieldOf o4a o4s o4r x5 (nI 3) σ) (fun v10 σ9 =>
      bdI (e_X6_fieldOf o4a o4s o4r x5 (nI 1) σ9) (fun v12 σ11 =>
      bdV (e_X3_delivered o3a o3s v12 (((σ.1 (0, o0a, 0, 0) 4) - v10) + (nI 1)) σ11) (fun σ13 =>
      bdI (e_X6_fieldOf o4a o4s o4r x5 (nI 4) σ13) (fun v15 σ14 =>
      if v15 = nI 1 then (
        if (σ13.1 (0, o0a, 0, 0) 12) ||| (nI 1) = 0 ∨ (σ13.1 (0, o0a, 0, 0) 12) ||| (nI 1) = 1 then (
        let σ16 := st σ14 (0, o0a, 0, 0) 12 ((σ13.1 (0, o0a, 0, 0) 12) ||| (nI 1));
        bdV (e_X6_removeAt o4a o4s o4r x5 σ16) (fun σ17 =>
        b_X0_deliver_26 o0a o2a o2s o3a o3s o4a o4s o4r (x5 + (-1)) σ17)) else none)
      else (
        if (σ13.1 (0, o0a, 0, 0) 12) ||| (nI 0) = 0 ∨ (σ13.1 (0, o0a, 0, 0) 12) ||| (nI 0) = 1 then (
        let σ18 := st σ14 (0, o0a, 0, 0) 12 ((σ13.1 (0, o0a, 0, 0) 12) ||| (nI 0));
        bdV (e_X6_removeAt o4a o4s o4r x5 σ18) (fun σ19 =>
        b_X0_deliver_26 o0a o2a o2s o3a o3s o4a o4s o4r (x5 + (-1)) σ19)) else none))))))) := (EvOf_eq mcode _).trans rfl
set_option maxRecDepth 100000 in
set_option maxHeartbeats 4000000 in
theorem q_X0_failExchange (oa : Nat) (p1 : Int32) (p2a : Nat) (p2s : Nat) (σ : mS) : e_X0_failExchange oa p1 p2a p2s σ =
  if nI 0 = 0 ∨ nI 0 = 1 then (
  let σ1 := st σ (2, p2a, p2s, 0) 0 (nI 0);
  if p1 < 0 ∨ 6 ≤ p1.toNatClampNeg then none else (
  if nI 4 < 0 ∨ 9 ≤ (nI 4).toNatClampNeg then none else (
  if nI 4 < 0 ∨ 9 ≤ (nI 4).toNatClampNeg then none else (
  let σ2 := st σ1 (15, oa, p1.toNatClampNeg, 0) ((nI 4).toNatClampNeg) ((σ1.1 (15, oa, p1.toNatClampNeg, 0) ((nI 4).toNatClampNeg)) + (nI 1));
  let σ3 := st σ2 (3, oa, p1.toNatClampNeg, 0) 3 (σ2.1 (2, p2a, p2s, 0) 9);
  let σ4 := st σ3 (3, oa, p1.toNatClampNeg, 0) 4 (σ3.1 (0, oa, 0, 0) 4);
  let σ5 := st σ4 (3, oa, p1.toNatClampNeg, 0) 5 (σ4.1 (2, p2a, p2s, 0) 1);
  bdV (e_X0_failFirst oa p1 (σ5.1 (2, p2a, p2s, 0) 2) σ5) (fun σ6 =>
  some (some none, σ6)))))) else none := (EvOf_eq mcode _).trans rfl
set_option maxRecDepth 100000 in
set_option maxHeartbeats 4000000 in
theorem q_X0_failFirst (oa : Nat) (p1 : Int32) (p2 : Int32) (σ : mS) : e_X0_failFirst oa p1 p2 σ =
  if p1 < 0 ∨ 6 ≤ p1.toNatClampNeg then none else (
  if p2 < 0 ∨ 4 ≤ p2.toNatClampNeg then none else (
  bdI (e_X6_tryAgain oa p1.toNatClampNeg p2.toNatClampNeg (nI 0) σ) (fun v2 σ1 =>
  if nI 2 < 0 ∨ 12 ≤ (nI 2).toNatClampNeg then none else (
  if v2 < σ1.1 (11, oa, 0, 0) ((nI 2).toNatClampNeg) then (
    if nI 11 < 0 ∨ 12 ≤ (nI 11).toNatClampNeg then none else (
    let σ3 := st σ1 (6, oa, p1.toNatClampNeg, p2.toNatClampNeg) 2 (if ((nI 2) * (σ1.1 (6, oa, p1.toNatClampNeg, p2.toNatClampNeg) 2)) + (nI 1) < σ1.1 (11, oa, 0, 0) ((nI 11).toNatClampNeg) then ((nI 2) * (σ1.1 (6, oa, p1.toNatClampNeg, p2.toNatClampNeg) 2)) + (nI 1) else σ1.1 (11, oa, 0, 0) ((nI 11).toNatClampNeg));
    bdI (e_X1_draw oa ((σ3.1 (6, oa, p1.toNatClampNeg, p2.toNatClampNeg) 2) + (nI 1)) σ3) (fun v5 σ4 =>
    let σ6 := st σ4 (6, oa, p1.toNatClampNeg, p2.toNatClampNeg) 3 v5;
    some (some none, σ6))))
  else (
    if p1 < 0 ∨ 6 ≤ p1.toNatClampNeg then none else (
    if nI 2 < 0 ∨ 9 ≤ (nI 2).toNatClampNeg then none else (
    if nI 2 < 0 ∨ 9 ≤ (nI 2).toNatClampNeg then none else (
    let σ7 := st σ1 (15, oa, p1.toNatClampNeg, 0) ((nI 2).toNatClampNeg) ((σ1.1 (15, oa, p1.toNatClampNeg, 0) ((nI 2).toNatClampNeg)) + (nI 1));
    bdV (e_X6_removeAt oa p1.toNatClampNeg p2.toNatClampNeg (nI 0) σ7) (fun σ8 =>
    if (nI 7) + p2 < 0 ∨ 12 ≤ ((nI 7) + p2).toNatClampNeg then none else (
    let σ9 := st σ8 (6, oa, p1.toNatClampNeg, p2.toNatClampNeg) 2 (σ8.1 (11, oa, 0, 0) (((nI 7) + p2).toNatClampNeg));
    bdI (e_X1_draw oa ((σ9.1 (6, oa, p1.toNatClampNeg, p2.toNatClampNeg) 2) + (nI 1)) σ9) (fun v11 σ10 =>
    let σ12 := st σ10 (6, oa, p1.toNatClampNeg, p2.toNatClampNeg) 3 v11;
    some (some none, σ12)))))))))))) := (EvOf_eq mcode _).trans rfl
set_option maxRecDepth 100000 in
set_option maxHeartbeats 4000000 in
theorem q_X0_settle (oa : Nat) (p1 : Int32) (σ : mS) : e_X0_settle oa p1 σ =
  if p1 < 0 ∨ 6 ≤ p1.toNatClampNeg then none else (
  bdI (e_X0_sendsNow oa p1 σ) (fun v2 σ1 =>
  if v2 = 0 then (
    if (σ1.1 (8, oa, p1.toNatClampNeg, 0) 6) &&& (σ1.1 (0, oa, 0, 0) 5) = 0 then (
      if ((σ1.1 (0, oa, 0, 0) 7) >>> (p1 &&& 31)) &&& (nI 1) = 0 then (
        if nI 1 = 0 then (
          let σ3 := st σ1 (8, oa, p1.toNatClampNeg, 0) 7 (nI 0);
          b_X0_settle_65 oa oa p1.toNatClampNeg (nI 0) σ3)
        else (
          let σ4 := st σ1 (8, oa, p1.toNatClampNeg, 0) 7 ((σ1.1 (8, oa, p1.toNatClampNeg, 0) 7) + (nI 1));
          b_X0_settle_65 oa oa p1.toNatClampNeg (nI 0) σ4))
      else (
        if nI 0 = 0 then (
          let σ5 := st σ1 (8, oa, p1.toNatClampNeg, 0) 7 (nI 0);
          b_X0_settle_65 oa oa p1.toNatClampNeg (nI 0) σ5)
        else (
          let σ6 := st σ1 (8, oa, p1.toNatClampNeg, 0) 7 ((σ1.1 (8, oa, p1.toNatClampNeg, 0) 7) + (nI 1));
          b_X0_settle_65 oa oa p1.toNatClampNeg (nI 0) σ6)))
    else (
      if nI 0 = 0 then (
        let σ7 := st σ1 (8, oa, p1.toNatClampNeg, 0) 7 (nI 0);
        b_X0_settle_65 oa oa p1.toNatClampNeg (nI 0) σ7)
      else (
        let σ8 := st σ1 (8, oa, p1.toNatClampNeg, 0) 7 ((σ1.1 (8, oa, p1.toNatClampNeg, 0) 7) + (nI 1));
        b_X0_settle_65 oa oa p1.toNatClampNeg (nI 0) σ8)))
  else (
    if nI 0 = 0 then (
      let σ9 := st σ1 (8, oa, p1.toNatClampNeg, 0) 7 (nI 0);
      b_X0_settle_65 oa oa p1.toNatClampNeg (nI 0) σ9)
    else (
      let σ10 := st σ1 (8, oa, p1.toNatClampNeg, 0) 7 ((σ1.1 (8, oa, p1.toNatClampNeg, 0) 7) + (nI 1));
      b_X0_settle_65 oa oa p1.toNatClampNeg (nI 0) σ10)))) := (EvOf_eq mcode _).trans rfl
set_option maxRecDepth 100000 in
set_option maxHeartbeats 4000000 in
theorem q_X0_settle_65 (o0a : Nat) (o2a : Nat) (o2s : Nat) (x4 : Int32) (σ : mS) : b_X0_settle_65 o0a o2a o2s x4 σ =
  if x4 < nI 4 then (
    if x4 < 0 ∨ 4 ≤ x4.toNatClampNeg then none else (
    if 0 < σ.1 (6, o2a, o2s, x4.toNatClampNeg) 1 then (
      if 0 < σ.1 (6, o2a, o2s, x4.toNatClampNeg) 3 then (
        if (nI 3) + x4 < 0 ∨ 12 ≤ ((nI 3) + x4).toNatClampNeg then none else (
        if σ.1 (11, o0a, 0, 0) (((nI 3) + x4).toNatClampNeg) < σ.1 (8, o2a, o2s, 0) 7 then (
          let σ1 := st σ (6, o2a, o2s, x4.toNatClampNeg) 3 ((σ.1 (6, o2a, o2s, x4.toNatClampNeg) 3) - (nI 1));
          b_X0_settle_65 o0a o2a o2s (x4 + 1) σ1)
        else (
          b_X0_settle_65 o0a o2a o2s (x4 + 1) σ)))
      else (
        b_X0_settle_65 o0a o2a o2s (x4 + 1) σ))
    else (
      b_X0_settle_65 o0a o2a o2s (x4 + 1) σ)))
  else (
    some (some none, σ)) := (EvOf_eq mcode _).trans rfl
end
section
/-! What each block comes to (by program out of the mini-code) -/
set_option maxRecDepth 100000 in
set_option maxHeartbeats 4000000 in
theorem q_X9_sign (p1 : Int32) (σ : mS) : e_X9_sign p1 σ =
  bdI (e_X7_addFour p1 σ) (fun v2 σ1 =>
  if v2 = 0 then (
    some (some (some (.inl (-1))), σ1))
  else (
    some (some (some (.inl (σ1.1 (7, 0, 0, 0) 1))), σ1))) := (EvOf_eq mcode _).trans rfl
set_option maxRecDepth 100000 in
set_option maxHeartbeats 4000000 in
theorem q_X9_end (p1 : Int32) (σ : mS) : e_X9_end p1 σ =
  bdI (e_X7_cutTo p1 σ) (fun v2 σ1 =>
  if v2 = 0 ∨ v2 = 1 then some (some (some (.inl v2)), σ1) else none) := (EvOf_eq mcode _).trans rfl
set_option maxRecDepth 100000 in
set_option maxHeartbeats 4000000 in
theorem q_X9_net (σ : mS) : e_X9_net σ =
  bdI (e_X7_digitAt (nI 0) (nI 1) (nI 6) σ) (fun v2 σ1 =>
  if v2 < 0 then (
    if nI 0 < 0 then (
      if nI 3 = 0 then none else (
      let σ3 := st σ1 (7, 0, 0, 0) 1 (nI 0);
      bdV (e_X5_push 0 σ3) (fun σ4 =>
      bdV (e_X0_startAnew 0 v2 σ4) (fun σ5 =>
      some (some (some (.inl (((σ1.1 (7, 0, 0, 0) 1) - (nI 1)) / (nI 3)))), σ5)))))
    else (
      let σ6 := st σ1 (7, 0, 0, 0) 1 (nI 0);
      some (some (some (.inl ((-1) - (nI 0)))), σ6)))
  else (
    bdI (e_X9_readPairs v2 σ1) (fun v8 σ7 =>
    if v8 < 0 then (
      if nI 3 = 0 then none else (
      let σ9 := st σ7 (7, 0, 0, 0) 1 (nI 0);
      bdV (e_X5_push 0 σ9) (fun σ10 =>
      bdV (e_X0_startAnew 0 v2 σ10) (fun σ11 =>
      some (some (some (.inl (((σ7.1 (7, 0, 0, 0) 1) - (nI 1)) / (nI 3)))), σ11)))))
    else (
      let σ12 := st σ7 (7, 0, 0, 0) 1 (nI 0);
      some (some (some (.inl ((-1) - v8))), σ12))))) := (EvOf_eq mcode _).trans rfl
set_option maxRecDepth 100000 in
set_option maxHeartbeats 4000000 in
theorem q_X9_sets (p1 : Int32) (p2 : Int32) (σ : mS) : e_X9_sets p1 p2 σ =
  if p1 < 0 then (
    some (some (some (.inl (-1))), σ))
  else (
    if nI 12 < p1 then (
      some (some (some (.inl (-1))), σ))
    else (
      if p1 = nI 12 then (
        bdV (e_X5_push 0 σ) (fun σ1 =>
        let σ2 := st σ1 (1, 0, 0, 0) 0 p2;
        some (some (some (.inl (nI 100))), σ2)))
      else (
        if p2 < nI 1 then (
          some (some (some (.inl (-1))), σ))
        else (
          if p1 < 0 ∨ 12 ≤ p1.toNatClampNeg then none else (
          if σ.1 (51, 0, 0, 0) p1.toNatClampNeg < p2 then (
            some (some (some (.inl (-1))), σ))
          else (
            if p1 < 0 ∨ 12 ≤ p1.toNatClampNeg then none else (
            if σ.1 (11, 0, 0, 0) p1.toNatClampNeg = p2 then (
              some (some (some (.inl (-2))), σ))
            else (
              bdV (e_X5_push 0 σ) (fun σ3 =>
              if p1 < 0 ∨ 12 ≤ p1.toNatClampNeg then none else (
              let σ4 := st σ3 (11, 0, 0, 0) p1.toNatClampNeg p2;
              some (some (some (.inl ((nI 100) + (σ.1 (11, 0, 0, 0) p1.toNatClampNeg)))), σ4))))))))))) := (EvOf_eq mcode _).trans rfl
set_option maxRecDepth 100000 in
set_option maxHeartbeats 4000000 in
theorem q_X9_setting (p1 : Int32) (σ : mS) : e_X9_setting p1 σ =
  if p1 < 0 then (
    some (none, σ))
  else (
    if nI 12 < p1 then (
      some (none, σ))
    else (
      if p1 = nI 12 then (
        some (some (some (.inl (σ.1 (1, 0, 0, 0) 0))), σ))
      else (
        if p1 < 0 ∨ 12 ≤ p1.toNatClampNeg then none else (
        some (some (some (.inl (σ.1 (11, 0, 0, 0) p1.toNatClampNeg))), σ))))) := (EvOf_eq mcode _).trans rfl
set_option maxRecDepth 100000 in
set_option maxHeartbeats 4000000 in
theorem q_X9_sheet (p1 : Int32) (p2 : Int32) (p3 : Int32) (p4 : Int32) (p5 : Int32) (σ : mS) : e_X9_sheet p1 p2 p3 p4 p5 σ =
  bdI (e_X9_isRank p1 σ) (fun v2 σ1 =>
  if v2 = 0 then (
    some (some (some (.inl (-1))), σ1))
  else (
    if p2 < 0 then (
      some (some (some (.inl (-1))), σ1))
    else (
      if nI 3 < p2 then (
        some (some (some (.inl (-1))), σ1))
      else (
        if nI 6 < p3 then (
          some (some (some (.inl (-1))), σ1))
        else (
          bdI (e_X0_exchangesOn 0 σ1) (fun v4 σ3 =>
          if 0 < v4 then (
            some (some (some (.inl (-4))), σ3))
          else (
            if p2 = nI 3 then (
              bdV (e_X0_emptyQueues 0 p1 σ3) (fun σ5 =>
              if p2 = nI 3 then (
                some (some (some (.inl (-3))), σ5))
              else (
                b_X9_sheet_71 p1 p2 p3 p4 p5 (nI 0) (nI 0) σ5)))
            else (
              if p3 < 0 then (
                some (some (some (.inl (-2))), σ3))
              else (
                bdV (e_X0_emptyQueues 0 p1 σ3) (fun σ6 =>
                if p2 = nI 3 then (
                  some (some (some (.inl (-3))), σ6))
                else (
                  b_X9_sheet_71 p1 p2 p3 p4 p5 (nI 0) (nI 0) σ6))))))))))) := (EvOf_eq mcode _).trans rfl
set_option maxRecDepth 100000 in
set_option maxHeartbeats 4000000 in
theorem q_X9_sheet_71 (x1 : Int32) (x2 : Int32) (x3 : Int32) (x4 : Int32) (x5 : Int32) (x6 : Int32) (x7 : Int32) (σ : mS) : b_X9_sheet_71 x1 x2 x3 x4 x5 x6 x7 σ =
  if x7 < x3 then (
    if x7 < σ.1 (0, 0, 0, 0) 3 then (
      bdI (e_X9_entryOf x2 (x4 + (x7 * x5)) σ) (fun v2 σ1 =>
      bdI (e_X9_comesFromEntry x7 x1 v2 σ1) (fun v4 σ3 =>
      if v4 = 0 then (
        b_X9_sheet_71 x1 x2 x3 x4 x5 x6 (x7 + 1) σ3)
      else (
        b_X9_sheet_71 x1 x2 x3 x4 x5 (x6 + 1) (x7 + 1) σ3))))
    else (
      some (some (some (.inl x6)), σ)))
  else (
    some (some (some (.inl x6)), σ)) := (EvOf_eq mcode _).trans rfl
set_option maxRecDepth 100000 in
set_option maxHeartbeats 4000000 in
theorem q_X9_offers (p1 : Int32) (p2 : Int32) (p3 : Int32) (p4 : Int32) (σ : mS) : e_X9_offers p1 p2 p3 p4 σ =
  bdI (e_X0_whyNotOffer 0 p1 p2 p3 p4 σ) (fun v2 σ1 =>
  if v2 < 0 then (
    some (some (some (.inl v2)), σ1))
  else (
    bdV (e_X5_push 0 σ1) (fun σ3 =>
    bdI (e_X0_takeFrame 0 p1 p2 p3 p4 σ3) (fun v5 σ4 =>
    some (some (some (.inl v5)), σ4))))) := (EvOf_eq mcode _).trans rfl
set_option maxRecDepth 100000 in
set_option maxHeartbeats 4000000 in
theorem q_X9_slots (p1 : Int32) (σ : mS) : e_X9_slots p1 σ =
  if p1 < nI 1 then (
    some (some (some (.inl (-1))), σ))
  else (
    if nI 60 < p1 then (
      some (some (some (.inl (-1))), σ))
    else (
      bdV (e_X5_push 0 σ) (fun σ1 =>
      bdI (e_X0_sumOf 0 (nI 0) σ1) (fun v3 σ2 =>
      bdI (e_X0_sumOf 0 (nI 2) σ2) (fun v5 σ4 =>
      bdI (e_X0_sumOf 0 (nI 4) σ4) (fun v7 σ6 =>
      bdI (e_X0_sumOf 0 (nI 6) σ6) (fun v9 σ8 =>
      b_X9_slots_66 p1 v3 v5 v7 v9 (nI 0) σ8))))))) := (EvOf_eq mcode _).trans rfl
set_option maxRecDepth 100000 in
set_option maxHeartbeats 4000000 in
theorem q_X9_slots_66 (x1 : Int32) (x2 : Int32) (x3 : Int32) (x4 : Int32) (x5 : Int32) (x6 : Int32) (σ : mS) : b_X9_slots_66 x1 x2 x3 x4 x5 x6 σ =
  if x6 < x1 then (
    bdV (e_X0_passSlot 0 σ) (fun σ1 =>
    b_X9_slots_66 x1 x2 x3 x4 x5 (x6 + 1) σ1))
  else (
    bdI (e_X0_sumOf 0 (nI 2) σ) (fun v3 σ2 =>
    bdI (e_X0_sumOf 0 (nI 4) σ2) (fun v5 σ4 =>
    bdI (e_X0_sumOf 0 (nI 6) σ4) (fun v7 σ6 =>
    bdV (e_X4_tellThree ((v3 - x3).toInt64) ((v5 - x4).toInt64) ((v7 - x5).toInt64) σ6) (fun σ8 =>
    bdI (e_X0_sumOf 0 (nI 0) σ8) (fun v10 σ9 =>
    some (some (some (.inl (v10 - x2))), σ9))))))) := (EvOf_eq mcode _).trans rfl
set_option maxRecDepth 100000 in
set_option maxHeartbeats 4000000 in
theorem q_X9_draws (σ : mS) : e_X9_draws σ =
  bdV (e_X5_push 0 σ) (fun σ1 =>
  bdI (e_X0_drawAll 0 σ1) (fun v3 σ2 =>
  some (some (some (.inl v3)), σ2))) := (EvOf_eq mcode _).trans rfl
set_option maxRecDepth 100000 in
set_option maxHeartbeats 4000000 in
theorem q_X9_station (p1 : Int32) (p2 : Int32) (σ : mS) : e_X9_station p1 p2 σ =
  bdI (e_X9_isStation p1 σ) (fun v2 σ1 =>
  if v2 = 0 then (
    some (none, σ1))
  else (
    if p2 < 0 then (
      some (none, σ1))
    else (
      if nI 6 < p2 then (
        some (none, σ1))
      else (
        if p1 < 0 ∨ 6 ≤ p1.toNatClampNeg then none else (
        if p2 = nI 0 then (
          some (some (some (.inl (σ1.1 (8, 0, p1.toNatClampNeg, 0) 7))), σ1))
        else if p2 = nI 1 then (
          some (some (some (.inl (σ1.1 (8, 0, p1.toNatClampNeg, 0) 8))), σ1))
        else if p2 = nI 2 then (
          bdI (e_X8_isFree 0 p1.toNatClampNeg σ1) (fun v4 σ3 =>
          if v4 = 0 then (
            some (some (some (.inl (nI 0))), σ3))
          else (
            some (some (some (.inl (nI 1))), σ3))))
        else if p2 = nI 3 then (
          some (some (some (.inl (σ1.1 (8, 0, p1.toNatClampNeg, 0) 11))), σ1))
        else if p2 = nI 4 then (
          some (some (some (.inl (σ1.1 (8, 0, p1.toNatClampNeg, 0) 12))), σ1))
        else if p2 = nI 5 then (
          some (some (some (.inl (σ1.1 (8, 0, p1.toNatClampNeg, 0) 6))), σ1))
        else (bdI (e_X8_waiting 0 p1.toNatClampNeg σ1) (fun v6 σ5 =>
          some (some (some (.inl v6)), σ5)))))))) := (EvOf_eq mcode _).trans rfl
set_option maxRecDepth 100000 in
set_option maxHeartbeats 4000000 in
theorem q_X9_rank (p1 : Int32) (p2 : Int32) (p3 : Int32) (σ : mS) : e_X9_rank p1 p2 p3 σ =
  bdI (e_X9_isStation p1 σ) (fun v2 σ1 =>
  if v2 = 0 then (
    some (none, σ1))
  else (
    bdI (e_X9_isRank p2 σ1) (fun v4 σ3 =>
    if v4 = 0 then (
      some (none, σ3))
    else (
      if p3 < 0 then (
        some (none, σ3))
      else (
        if nI 3 < p3 then (
          some (none, σ3))
        else (
          if p1 < 0 ∨ 6 ≤ p1.toNatClampNeg then none else (
          if p2 < 0 ∨ 4 ≤ p2.toNatClampNeg then none else (
          if p3 = nI 0 then (
            some (some (some (.inl (σ3.1 (6, 0, p1.toNatClampNeg, p2.toNatClampNeg) 1))), σ3))
          else if p3 = nI 1 then (
            some (some (some (.inl (σ3.1 (6, 0, p1.toNatClampNeg, p2.toNatClampNeg) 3))), σ3))
          else if p3 = nI 2 then (
            some (some (some (.inl (σ3.1 (6, 0, p1.toNatClampNeg, p2.toNatClampNeg) 2))), σ3))
          else (bdI (e_X0_isReady 0 p1 p2 σ3) (fun v6 σ5 =>
            if v6 = 0 then (
              some (some (some (.inl (nI 0))), σ5))
            else (
              some (some (some (.inl (nI 1))), σ5)))))))))))) := (EvOf_eq mcode _).trans rfl
set_option maxRecDepth 100000 in
set_option maxHeartbeats 4000000 in
theorem q_X9_frame (p1 : Int32) (p2 : Int32) (p3 : Int32) (p4 : Int32) (σ : mS) : e_X9_frame p1 p2 p3 p4 σ =
  bdI (e_X9_isStation p1 σ) (fun v2 σ1 =>
  if v2 = 0 then (
    some (none, σ1))
  else (
    bdI (e_X9_isRank p2 σ1) (fun v4 σ3 =>
    if v4 = 0 then (
      some (none, σ3))
    else (
      if p4 < 0 then (
        some (none, σ3))
      else (
        if nI 3 < p4 then (
          some (none, σ3))
        else (
          if p1 < 0 ∨ 6 ≤ p1.toNatClampNeg then none else (
          if p2 < 0 ∨ 4 ≤ p2.toNatClampNeg then none else (
          if p3 < 0 then (
            some (none, σ3))
          else (
            if p3 < σ3.1 (6, 0, p1.toNatClampNeg, p2.toNatClampNeg) 1 then (
              if (p3 * (nI 5)) + p4 < 0 ∨ 40 ≤ ((p3 * (nI 5)) + p4).toNatClampNeg then none else (
              some (some (some (.inl (σ3.1 (14, 0, p1.toNatClampNeg, p2.toNatClampNeg) (((p3 * (nI 5)) + p4).toNatClampNeg)))), σ3)))
            else (
              some (none, σ3))))))))))) := (EvOf_eq mcode _).trans rfl
set_option maxRecDepth 100000 in
set_option maxHeartbeats 4000000 in
theorem q_X9_exchange (p1 : Int32) (p2 : Int32) (σ : mS) : e_X9_exchange p1 p2 σ =
  bdI (e_X9_isStation p1 σ) (fun v2 σ1 =>
  if v2 = 0 then (
    some (some (some (.inl (-1))), σ1))
  else (
    if p1 < 0 ∨ 6 ≤ p1.toNatClampNeg then none else (
    if σ1.1 (2, 0, p1.toNatClampNeg, 0) 0 = 0 then (
      some (some (some (.inl (-1))), σ1))
    else (
      if p2 = nI 0 then (
        some (some (some (.inl (σ1.1 (2, 0, p1.toNatClampNeg, 0) 1))), σ1))
      else if p2 = nI 1 then (
        some (some (some (.inl (σ1.1 (2, 0, p1.toNatClampNeg, 0) 2))), σ1))
      else if p2 = nI 2 then (
        some (some (some (.inl (σ1.1 (2, 0, p1.toNatClampNeg, 0) 3))), σ1))
      else if p2 = nI 3 then (
        some (some (some (.inl (σ1.1 (2, 0, p1.toNatClampNeg, 0) 4))), σ1))
      else if p2 = nI 4 then (
        some (some (some (.inl (σ1.1 (2, 0, p1.toNatClampNeg, 0) 5))), σ1))
      else if p2 = nI 5 then (
        if σ1.1 (2, 0, p1.toNatClampNeg, 0) 5 = nI 2 then (
          some (some (some (.inl (σ1.1 (2, 0, p1.toNatClampNeg, 0) 6))), σ1))
        else (
          some (some (some (.inl (nI 1))), σ1)))
      else if p2 = nI 6 then (
        some (some (some (.inl (σ1.1 (2, 0, p1.toNatClampNeg, 0) 7))), σ1))
      else (some (some (some (.inl (-1))), σ1)))))) := (EvOf_eq mcode _).trans rfl
set_option maxRecDepth 100000 in
set_option maxHeartbeats 4000000 in
theorem q_X9_sent (σ : mS) : e_X9_sent σ =
  if σ.1 (0, 0, 0, 0) 4 = 0 then (
    some (some (some (.inl (-2))), σ))
  else (
    bdV (e_X4_tellTwo ((σ.1 (0, 0, 0, 0) 6).toInt64) ((σ.1 (0, 0, 0, 0) 7).toInt64) σ) (fun σ1 =>
    some (some (some (.inl (σ1.1 (0, 0, 0, 0) 5))), σ1))) := (EvOf_eq mcode _).trans rfl
set_option maxRecDepth 100000 in
set_option maxHeartbeats 4000000 in
theorem q_X9_spanOf (p1 : Int32) (σ : mS) : e_X9_spanOf p1 σ =
  bdI (e_X9_isStation p1 σ) (fun v2 σ1 =>
  if v2 = 0 then (
    some (some (some (.inl (-1))), σ1))
  else (
    if p1 < 0 ∨ 6 ≤ p1.toNatClampNeg then none else (
    if σ1.1 (0, 0, 0, 0) 4 < σ1.1 (8, 0, p1.toNatClampNeg, 0) 8 then (
      bdV (e_X4_tellTwo ((σ1.1 (8, 0, p1.toNatClampNeg, 0) 10).toInt64) (((σ1.1 (8, 0, p1.toNatClampNeg, 0) 8) - (σ1.1 (0, 0, 0, 0) 4)).toInt64) σ1) (fun σ3 =>
      some (some (some (.inl (σ3.1 (8, 0, p1.toNatClampNeg, 0) 9))), σ3)))
    else (
      some (some (some (.inl (-2))), σ1))))) := (EvOf_eq mcode _).trans rfl
set_option maxRecDepth 100000 in
set_option maxHeartbeats 4000000 in
theorem q_X9_rate (p1 : Int32) (p2 : Int32) (σ : mS) : e_X9_rate p1 p2 σ =
  bdI (e_X9_isStation p1 σ) (fun v2 σ1 =>
  if v2 = 0 then (
    some (some (some (.inl (-1))), σ1))
  else (
    bdI (e_X9_isStation p2 σ1) (fun v4 σ3 =>
    if v4 = 0 then (
      some (some (some (.inl (-1))), σ3))
    else (
      if p1 = p2 then (
        some (some (some (.inl (-1))), σ3))
      else (
        bdI (e_X0_hear 0 p1 p2 σ3) (fun v6 σ5 =>
        if v6 = 0 then (
          some (some (some (.inl (-2))), σ5))
        else (
          if p1 < 0 ∨ 6 ≤ p1.toNatClampNeg then none else (
          if p2 < 0 ∨ 6 ≤ p2.toNatClampNeg then none else (
          if p2 < 0 ∨ 6 ≤ p2.toNatClampNeg then none else (
          bdV (e_X4_tellTwo ((σ5.1 (19, 0, p1.toNatClampNeg, 0) p2.toNatClampNeg).toInt64) ((σ5.1 (17, 0, p1.toNatClampNeg, 0) p2.toNatClampNeg).toInt64) σ5) (fun σ7 =>
          if p2 < 0 ∨ 6 ≤ p2.toNatClampNeg then none else (
          some (some (some (.inl (σ7.1 (18, 0, p1.toNatClampNeg, 0) p2.toNatClampNeg))), σ7))))))))))))) := (EvOf_eq mcode _).trans rfl
set_option maxRecDepth 100000 in
set_option maxHeartbeats 4000000 in
theorem q_X9_hidden (σ : mS) : e_X9_hidden σ =
  bdV (e_X4_forget σ) (fun σ1 =>
  b_X9_hidden_9 (nI 0) σ1) := (EvOf_eq mcode _).trans rfl
set_option maxRecDepth 100000 in
set_option maxHeartbeats 4000000 in
theorem q_X9_hidden_9 (x1 : Int32) (σ : mS) : b_X9_hidden_9 x1 σ =
  if x1 < σ.1 (0, 0, 0, 0) 3 then (
    b_X9_hidden_24 x1 (x1 + (nI 1)) σ)
  else (
    some (some (some (.inl (σ.1 (4, 0, 0, 0) 1))), σ)) := (EvOf_eq mcode _).trans rfl
set_option maxRecDepth 100000 in
set_option maxHeartbeats 4000000 in
theorem q_X9_hidden_24 (x1 : Int32) (x2 : Int32) (σ : mS) : b_X9_hidden_24 x1 x2 σ =
  if x2 < σ.1 (0, 0, 0, 0) 3 then (
    if x1 < 0 ∨ 6 ≤ x1.toNatClampNeg then none else (
    if x2 < 0 ∨ 6 ≤ x2.toNatClampNeg then none else (
    if (σ.1 (8, 0, x1.toNatClampNeg, 0) 6) &&& (σ.1 (8, 0, x2.toNatClampNeg, 0) 6) = 0 then (
      if nI 0 = 0 then (
        b_X9_hidden_24 x1 (x2 + 1) σ)
      else (
        bdI (e_X0_hear 0 x1 x2 σ) (fun v2 σ1 =>
        if v2 = 0 then (
          bdV (e_X4_add (((lN 6) * ((x1).toInt64)) + ((x2).toInt64)) σ1) (fun σ3 =>
          b_X9_hidden_24 x1 (x2 + 1) σ3))
        else (
          b_X9_hidden_24 x1 (x2 + 1) σ1))))
    else (
      if nI 1 = 0 then (
        b_X9_hidden_24 x1 (x2 + 1) σ)
      else (
        bdI (e_X0_hear 0 x1 x2 σ) (fun v5 σ4 =>
        if v5 = 0 then (
          bdV (e_X4_add (((lN 6) * ((x1).toInt64)) + ((x2).toInt64)) σ4) (fun σ6 =>
          b_X9_hidden_24 x1 (x2 + 1) σ6))
        else (
          b_X9_hidden_24 x1 (x2 + 1) σ4)))))))
  else (
    b_X9_hidden_9 (x1 + 1) σ) := (EvOf_eq mcode _).trans rfl
set_option maxRecDepth 100000 in
set_option maxHeartbeats 4000000 in
theorem q_X9_tally (p1 : Int32) (p2 : Int32) (σ : mS) : e_X9_tally p1 p2 σ =
  bdI (e_X9_isStation p1 σ) (fun v2 σ1 =>
  if v2 = 0 then (
    some (none, σ1))
  else (
    if p2 < 0 then (
      some (none, σ1))
    else (
      if p2 < nI 9 then (
        if p1 < 0 ∨ 6 ≤ p1.toNatClampNeg then none else (
        if p2 < 0 ∨ 9 ≤ p2.toNatClampNeg then none else (
        some (some (some (.inl (σ1.1 (15, 0, p1.toNatClampNeg, 0) p2.toNatClampNeg))), σ1))))
      else (
        some (none, σ1))))) := (EvOf_eq mcode _).trans rfl
set_option maxRecDepth 100000 in
set_option maxHeartbeats 4000000 in
theorem q_X9_why (p1 : Int32) (σ : mS) : e_X9_why p1 σ =
  bdI (e_X9_isStation p1 σ) (fun v2 σ1 =>
  if v2 = 0 then (
    some (some (some (.inl (-1))), σ1))
  else (
    if p1 < 0 ∨ 6 ≤ p1.toNatClampNeg then none else (
    if σ1.1 (3, 0, p1.toNatClampNeg, 0) 3 = 0 then (
      some (some (some (.inl (-2))), σ1))
    else (
      bdV (e_X4_tellTwo ((σ1.1 (3, 0, p1.toNatClampNeg, 0) 4).toInt64) ((σ1.1 (3, 0, p1.toNatClampNeg, 0) 5).toInt64) σ1) (fun σ3 =>
      some (some (some (.inl (σ3.1 (3, 0, p1.toNatClampNeg, 0) 3))), σ3)))))) := (EvOf_eq mcode _).trans rfl
set_option maxRecDepth 100000 in
set_option maxHeartbeats 4000000 in
theorem q_X9_spoilt (p1 : Int32) (p2 : Int32) (σ : mS) : e_X9_spoilt p1 p2 σ =
  bdI (e_X9_isStation p1 σ) (fun v2 σ1 =>
  if v2 = 0 then (
    some (some (some (.inl (-1))), σ1))
  else (
    bdI (e_X9_isStation p2 σ1) (fun v4 σ3 =>
    if v4 = 0 then (
      some (some (some (.inl (-1))), σ3))
    else (
      if p1 = p2 then (
        some (some (some (.inl (-1))), σ3))
      else (
        if p1 < 0 ∨ 6 ≤ p1.toNatClampNeg then none else (
        bdV (e_X4_tellOne ((σ3.1 (3, 0, p1.toNatClampNeg, 0) 2).toInt64) σ3) (fun σ5 =>
        if p2 < 0 ∨ 6 ≤ p2.toNatClampNeg then none else (
        some (some (some (.inl (σ5.1 (16, 0, p1.toNatClampNeg, 0) p2.toNatClampNeg))), σ5))))))))) := (EvOf_eq mcode _).trans rfl
set_option maxRecDepth 100000 in
set_option maxHeartbeats 4000000 in
theorem q_X9_held (p1 : Int32) (σ : mS) : e_X9_held p1 σ =
  bdI (e_X9_isStation p1 σ) (fun v2 σ1 =>
  if v2 = 0 then (
    some (some (some (.inl (-1))), σ1))
  else (
    if p1 < 0 ∨ 6 ≤ p1.toNatClampNeg then none else (
    bdV (e_X4_tellThree ((σ1.1 (3, 0, p1.toNatClampNeg, 0) 6).toInt64) ((σ1.1 (3, 0, p1.toNatClampNeg, 0) 7).toInt64) ((σ1.1 (3, 0, p1.toNatClampNeg, 0) 8).toInt64) σ1) (fun σ3 =>
    some (some (some (.inl (((σ3.1 (3, 0, p1.toNatClampNeg, 0) 6) + (σ3.1 (3, 0, p1.toNatClampNeg, 0) 7)) + (σ3.1 (3, 0, p1.toNatClampNeg, 0) 8)))), σ3))))) := (EvOf_eq mcode _).trans rfl
set_option maxRecDepth 100000 in
set_option maxHeartbeats 4000000 in
theorem q_X9_even (σ : mS) : e_X9_even σ =
  b_X9_even_7 (lN 0) (lN 0) (nI 0) σ := (EvOf_eq mcode _).trans rfl
set_option maxRecDepth 100000 in
set_option maxHeartbeats 4000000 in
theorem q_X9_even_7 (y1 : Int64) (y3 : Int64) (x5 : Int32) (σ : mS) : b_X9_even_7 y1 y3 x5 σ =
  if x5 < σ.1 (0, 0, 0, 0) 3 then (
    if x5 < 0 ∨ 6 ≤ x5.toNatClampNeg then none else (
    if nI 1 < 0 ∨ 9 ≤ (nI 1).toNatClampNeg then none else (
    b_X9_even_7 (y1 + ((σ.1 (15, 0, x5.toNatClampNeg, 0) ((nI 1).toNatClampNeg)).toInt64)) (y3 + (((σ.1 (15, 0, x5.toNatClampNeg, 0) ((nI 1).toNatClampNeg)).toInt64) * ((σ.1 (15, 0, x5.toNatClampNeg, 0) ((nI 1).toNatClampNeg)).toInt64))) (x5 + 1) σ)))
  else (
    if lg_cmp y1 (lN 0) = 0 then (
      some (some (some (.inl (-2))), σ))
    else (
      bdV (e_X4_tellPart (y1 * y1) (((σ.1 (0, 0, 0, 0) 3).toInt64) * y3) σ) (fun σ1 =>
      some (some (some (.inl (nI 0))), σ1)))) := (EvOf_eq mcode _).trans rfl
set_option maxRecDepth 100000 in
set_option maxHeartbeats 4000000 in
theorem q_X9_busy (σ : mS) : e_X9_busy σ =
  bdV (e_X4_tellTwo ((σ.1 (0, 0, 0, 0) 10).toInt64) ((σ.1 (0, 0, 0, 0) 11).toInt64) σ) (fun σ1 =>
  some (some (some (.inl (σ1.1 (0, 0, 0, 0) 9))), σ1)) := (EvOf_eq mcode _).trans rfl
set_option maxRecDepth 100000 in
set_option maxHeartbeats 4000000 in
theorem q_X9_odds (p1 : Int32) (p2 : Int32) (σ : mS) : e_X9_odds p1 p2 σ =
  if p1 < nI 1 then (
    some (some (some (.inl (-1))), σ))
  else (
    if nI 5 < p1 then (
      some (some (some (.inl (-1))), σ))
    else (
      if p2 < 0 then (
        some (some (some (.inl (-1))), σ))
      else (
        if nI 31 < p2 then (
          some (some (some (.inl (-1))), σ))
        else (
          bdL (e_X9_waysAlone p1 p2 σ) (fun v2 σ1 =>
          bdL (e_X9_power (p2 + (nI 1)) p1 σ1) (fun v4 σ3 =>
          bdV (e_X4_tellPart v2 v4 σ3) (fun σ5 =>
          some (some (some (.inl (nI 0))), σ5)))))))) := (EvOf_eq mcode _).trans rfl
set_option maxRecDepth 100000 in
set_option maxHeartbeats 4000000 in
theorem q_X9_window (p1 : Int32) (p2 : Int32) (σ : mS) : e_X9_window p1 p2 σ =
  if p1 < nI 1 then (
    some (some (some (.inl (-1))), σ))
  else (
    if nI 5 < p1 then (
      some (some (some (.inl (-1))), σ))
    else (
      if p2 < 0 then (
        some (some (some (.inl (-1))), σ))
      else (
        if nI 100 < p2 then (
          some (some (some (.inl (-1))), σ))
        else (
          b_X9_window_24 p1 p2 (nI 0) σ)))) := (EvOf_eq mcode _).trans rfl
set_option maxRecDepth 100000 in
set_option maxHeartbeats 4000000 in
theorem q_X9_window_24 (x1 : Int32) (x2 : Int32) (x3 : Int32) (σ : mS) : b_X9_window_24 x1 x2 x3 σ =
  if nI 31 < x3 then (
    some (some (some (.inl (-2))), σ))
  else (
    bdL (e_X9_waysAlone x1 x3 σ) (fun v2 σ1 =>
    bdL (e_X9_power (x3 + (nI 1)) x1 σ1) (fun v4 σ3 =>
    if lg_cmp ((lN 100) * v2) (((x2).toInt64) * v4) < 0 then (
      b_X9_window_24 x1 x2 (x3 + 1) σ3)
    else (
      some (some (some (.inl x3)), σ3))))) := (EvOf_eq mcode _).trans rfl
set_option maxRecDepth 100000 in
set_option maxHeartbeats 4000000 in
theorem q_X9_ahead (p1 : Int32) (p2 : Int32) (σ : mS) : e_X9_ahead p1 p2 σ =
  if p1 < nI 1 then (
    some (some (some (.inl (-1))), σ))
  else (
    if nI 60 < p1 then (
      some (some (some (.inl (-1))), σ))
    else (
      if p2 < 0 then (
        some (some (some (.inl (-1))), σ))
      else (
        if nI 4 < p2 then (
          some (some (some (.inl (-1))), σ))
        else (
          bdV (e_X0_become 1 0 σ) (fun σ1 =>
          b_X9_ahead_35 p1 p2 (nI 0) σ1))))) := (EvOf_eq mcode _).trans rfl
set_option maxRecDepth 100000 in
set_option maxHeartbeats 4000000 in
theorem q_X9_ahead_35 (x1 : Int32) (x2 : Int32) (x3 : Int32) (σ : mS) : b_X9_ahead_35 x1 x2 x3 σ =
  if x3 < x1 then (
    bdV (e_X0_passSlot 1 σ) (fun σ1 =>
    b_X9_ahead_35 x1 x2 (x3 + 1) σ1))
  else (
    if x2 = nI 0 then (
      bdI (e_X0_sumOf 1 (nI 0) σ) (fun v3 σ2 =>
      bdI (e_X0_sumOf 0 (nI 0) σ2) (fun v5 σ4 =>
      some (some (some (.inl (v3 - v5))), σ4))))
    else if x2 = nI 1 then (
      bdI (e_X0_sumOf 1 (nI 2) σ) (fun v7 σ6 =>
      bdI (e_X0_sumOf 0 (nI 2) σ6) (fun v9 σ8 =>
      some (some (some (.inl (v7 - v9))), σ8))))
    else if x2 = nI 2 then (
      bdI (e_X0_sumOf 1 (nI 4) σ) (fun v11 σ10 =>
      bdI (e_X0_sumOf 0 (nI 4) σ10) (fun v13 σ12 =>
      some (some (some (.inl (v11 - v13))), σ12))))
    else if x2 = nI 3 then (
      bdI (e_X0_waiting 1 σ) (fun v15 σ14 =>
      some (some (some (.inl v15)), σ14)))
    else (some (some (some (.inl (σ.1 (0, 1, 0, 0) 5))), σ))) := (EvOf_eq mcode _).trans rfl
set_option maxRecDepth 100000 in
set_option maxHeartbeats 4000000 in
theorem q_X9_quiet (σ : mS) : e_X9_quiet σ =
  bdV (e_X0_become 1 0 σ) (fun σ1 =>
  b_X9_quiet_13 (nI 0) σ1) := (EvOf_eq mcode _).trans rfl
set_option maxRecDepth 100000 in
set_option maxHeartbeats 4000000 in
theorem q_X9_quiet_13 (x1 : Int32) (σ : mS) : b_X9_quiet_13 x1 σ =
  if nI 99 < x1 then (
    some (some (some (.inl (-2))), σ))
  else (
    bdI (e_X0_waiting 1 σ) (fun v2 σ1 =>
    if v2 = 0 then (
      bdI (e_X0_exchangesOn 1 σ1) (fun v4 σ3 =>
      if v4 = 0 then (
        bdI (e_X0_sumOf 1 (nI 0) σ3) (fun v6 σ5 =>
        bdI (e_X0_sumOf 0 (nI 0) σ5) (fun v8 σ7 =>
        bdV (e_X4_tellOne ((v6 - v8).toInt64) σ7) (fun σ9 =>
        some (some (some (.inl x1)), σ9)))))
      else (
        bdV (e_X0_passSlot 1 σ3) (fun σ10 =>
        b_X9_quiet_13 (x1 + 1) σ10))))
    else (
      bdV (e_X0_passSlot 1 σ1) (fun σ11 =>
      b_X9_quiet_13 (x1 + 1) σ11)))) := (EvOf_eq mcode _).trans rfl
set_option maxRecDepth 100000 in
set_option maxHeartbeats 4000000 in
theorem q_X9_next (σ : mS) : e_X9_next σ =
  bdV (e_X0_become 1 0 σ) (fun σ1 =>
  b_X9_next_13 (nI 0) σ1) := (EvOf_eq mcode _).trans rfl
set_option maxRecDepth 100000 in
set_option maxHeartbeats 4000000 in
theorem q_X9_next_13 (x1 : Int32) (σ : mS) : b_X9_next_13 x1 σ =
  if nI 99 < x1 then (
    some (some (some (.inl (-2))), σ))
  else (
    bdV (e_X0_passSlot 1 σ) (fun σ1 =>
    if σ1.1 (0, 1, 0, 0) 8 = 0 then (
      b_X9_next_13 (x1 + 1) σ1)
    else (
      bdV (e_X4_tellOne ((σ1.1 (0, 1, 0, 0) 8).toInt64) σ1) (fun σ2 =>
      some (some (some (.inl x1)), σ2))))) := (EvOf_eq mcode _).trans rfl
set_option maxRecDepth 100000 in
set_option maxHeartbeats 4000000 in
theorem q_X9_soonest (p1 : Int32) (σ : mS) : e_X9_soonest p1 σ =
  bdI (e_X9_isStation p1 σ) (fun v2 σ1 =>
  if v2 = 0 then (
    some (some (some (.inl (-1))), σ1))
  else (
    b_X9_soonest_19 p1 (-2) (nI 100) (nI 0) σ1)) := (EvOf_eq mcode _).trans rfl
set_option maxRecDepth 100000 in
set_option maxHeartbeats 4000000 in
theorem q_X9_soonest_19 (x1 : Int32) (x2 : Int32) (x3 : Int32) (x4 : Int32) (σ : mS) : b_X9_soonest_19 x1 x2 x3 x4 σ =
  if x4 < σ.1 (0, 0, 0, 0) 3 then (
    bdI (e_X0_whyNotOffer 0 x4 (nI 0) x1 (nI 1) σ) (fun v2 σ1 =>
    if v2 = 0 then (
      bdI (e_X9_slotsTillDelivered x4 x1 σ1) (fun v4 σ3 =>
      if v4 < x3 then (
        b_X9_soonest_19 x1 x4 v4 (x4 + 1) σ3)
      else (
        b_X9_soonest_19 x1 x2 x3 (x4 + 1) σ3)))
    else (
      b_X9_soonest_19 x1 x2 x3 (x4 + 1) σ1)))
  else (
    if x2 < 0 then (
      some (some (some (.inl x2)), σ))
    else (
      bdV (e_X4_tellOne ((x3).toInt64) σ) (fun σ5 =>
      some (some (some (.inl x2)), σ5)))) := (EvOf_eq mcode _).trans rfl
set_option maxRecDepth 100000 in
set_option maxHeartbeats 4000000 in
theorem q_X9_day (σ : mS) : e_X9_day σ =
  bdI (e_X9_faultInDay σ) (fun v2 σ1 =>
  if v2 < 0 then (
    bdV (e_X0_become 1 0 σ1) (fun σ3 =>
    b_X9_day_42 (nI 0) (nI 0) (nI 0) (nI 0) σ3))
  else (
    let σ4 := st σ1 (7, 0, 0, 0) 1 (nI 0);
    some (some (some (.inl ((-1) - v2))), σ4))) := (EvOf_eq mcode _).trans rfl
set_option maxRecDepth 100000 in
set_option maxHeartbeats 4000000 in
theorem q_X9_day_42 (x2 : Int32) (x3 : Int32) (x4 : Int32) (x5 : Int32) (σ : mS) : b_X9_day_42 x2 x3 x4 x5 σ =
  if x5 < nI 80 then (
    if x4 < σ.1 (7, 0, 0, 0) 1 then (
      if x3 = 0 then (
        bdI (e_X9_doAct x4 σ) (fun v2 σ1 =>
        if v2 = 0 then (
          if nI 1 = 0 then (
            bdI (e_X9_actLength x4 σ1) (fun v4 σ3 =>
            b_X9_day_42 (x2 + (nI 1)) (nI 1) (x4 + v4) (x5 + 1) σ3))
          else (
            bdI (e_X9_actLength x4 σ1) (fun v6 σ5 =>
            b_X9_day_42 (x2 + (nI 0)) (nI 1) (x4 + v6) (x5 + 1) σ5)))
        else (
          if nI 0 = 0 then (
            bdI (e_X9_actLength x4 σ1) (fun v8 σ7 =>
            b_X9_day_42 (x2 + (nI 1)) (nI 0) (x4 + v8) (x5 + 1) σ7))
          else (
            bdI (e_X9_actLength x4 σ1) (fun v10 σ9 =>
            b_X9_day_42 (x2 + (nI 0)) (nI 0) (x4 + v10) (x5 + 1) σ9)))))
      else (
        b_X9_day_109 x2 x3 σ))
    else (
      b_X9_day_109 x2 x3 σ))
  else (
    b_X9_day_109 x2 x3 σ) := (EvOf_eq mcode _).trans rfl
set_option maxRecDepth 100000 in
set_option maxHeartbeats 4000000 in
theorem q_X9_day_109 (x2 : Int32) (x3 : Int32) (σ : mS) : b_X9_day_109 x2 x3 σ =
  let σ1 := st σ (7, 0, 0, 0) 1 (nI 0);
  if x3 = 0 then (
    bdI (e_X0_sumOf 0 (nI 0) σ1) (fun v3 σ2 =>
    bdI (e_X0_sumOf 1 (nI 0) σ2) (fun v5 σ4 =>
    bdV (e_X4_tellTwo (lN 0) ((v3 - v5).toInt64) σ4) (fun σ6 =>
    if 0 < x2 then (
      bdV (e_X5_push 1 σ6) (fun σ7 =>
      some (some (some (.inl x2)), σ7)))
    else (
      some (some (some (.inl x2)), σ6))))))
  else (
    bdI (e_X0_sumOf 0 (nI 0) σ1) (fun v9 σ8 =>
    bdI (e_X0_sumOf 1 (nI 0) σ8) (fun v11 σ10 =>
    bdV (e_X4_tellTwo (lN 1) ((v9 - v11).toInt64) σ10) (fun σ12 =>
    if 0 < x2 then (
      bdV (e_X5_push 1 σ12) (fun σ13 =>
      some (some (some (.inl x2)), σ13)))
    else (
      some (some (some (.inl x2)), σ12)))))) := (EvOf_eq mcode _).trans rfl
set_option maxRecDepth 100000 in
set_option maxHeartbeats 4000000 in
theorem q_X9_undo (σ : mS) : e_X9_undo σ =
  bdI (e_X5_popInto 0 σ) (fun v2 σ1 =>
  if v2 = 0 then (
    some (some (some (.inl (-1))), σ1))
  else (
    some (some (some (.inl (σ1.1 (5, 0, 0, 0) 1))), σ1))) := (EvOf_eq mcode _).trans rfl
set_option maxRecDepth 100000 in
set_option maxHeartbeats 4000000 in
theorem q_X9_years (p1 : Int32) (p2 : Int32) (σ : mS) : e_X9_years p1 p2 σ =
  if p2 < nI 1 then (
    some (some (some (.inl (-1))), σ))
  else (
    if nI 40 < p2 then (
      some (some (some (.inl (-1))), σ))
    else (
      bdV (e_X0_become 1 0 σ) (fun σ1 =>
      let σ2 := st σ1 (1, 10, 0, 0) 0 p1;
      b_X9_years_34 p2 (nI 0) σ2))) := (EvOf_eq mcode _).trans rfl
set_option maxRecDepth 100000 in
set_option maxHeartbeats 4000000 in
theorem q_X9_years_34 (x2 : Int32) (x3 : Int32) (σ : mS) : b_X9_years_34 x2 x3 σ =
  if x3 < x2 then (
    bdI (e_X1_draw 10 (nI 3) σ) (fun v2 σ1 =>
    if v2 < nI 2 then (
      bdV (e_X9_offerDrawn σ1) (fun σ3 =>
      b_X9_years_34 x2 (x3 + 1) σ3))
    else (
      bdI (e_X1_draw 10 (nI 8) σ1) (fun v5 σ4 =>
      b_X9_years_74 x2 x3 (v5 + (nI 1)) (nI 0) σ4))))
  else (
    bdI (e_X0_sumOf 1 (nI 2) σ) (fun v7 σ6 =>
    bdI (e_X0_sumOf 0 (nI 2) σ6) (fun v9 σ8 =>
    bdI (e_X0_waiting 1 σ8) (fun v11 σ10 =>
    bdV (e_X4_tellThree ((v7 - v9).toInt64) ((v11).toInt64) (((σ10.1 (0, 1, 0, 0) 4) - (σ10.1 (0, 0, 0, 0) 4)).toInt64) σ10) (fun σ12 =>
    bdI (e_X0_sumOf 1 (nI 0) σ12) (fun v14 σ13 =>
    bdI (e_X0_sumOf 0 (nI 0) σ13) (fun v16 σ15 =>
    some (some (some (.inl (v14 - v16))), σ15)))))))) := (EvOf_eq mcode _).trans rfl
set_option maxRecDepth 100000 in
set_option maxHeartbeats 4000000 in
theorem q_X9_years_74 (x2 : Int32) (x3 : Int32) (x4 : Int32) (x5 : Int32) (σ : mS) : b_X9_years_74 x2 x3 x4 x5 σ =
  if x5 < x4 then (
    bdV (e_X0_passSlot 1 σ) (fun σ1 =>
    b_X9_years_74 x2 x3 x4 (x5 + 1) σ1))
  else (
    b_X9_years_34 x2 (x3 + 1) σ) := (EvOf_eq mcode _).trans rfl
set_option maxRecDepth 100000 in
set_option maxHeartbeats 4000000 in
theorem q_X9_keep (p1 : Int32) (σ : mS) : e_X9_keep p1 σ =
  if p1 < 0 then (
    if nI 0 = 0 ∨ nI 0 = 1 then some (some (some (.inl (nI 0))), σ) else none)
  else (
    if p1 < nI 2 then (
      if p1 < 0 ∨ 2 ≤ p1.toNatClampNeg then none else (
      bdV (e_X0_become (2 + p1.toNatClampNeg) 0 σ) (fun σ1 =>
      if p1 < 0 ∨ 2 ≤ p1.toNatClampNeg then none else (
      if nI 1 = 0 ∨ nI 1 = 1 then (
      let σ2 := st σ1 (22, 0, 0, 0) p1.toNatClampNeg (nI 1);
      if nI 1 = 0 ∨ nI 1 = 1 then some (some (some (.inl (nI 1))), σ2) else none) else none))))
    else (
      if nI 0 = 0 ∨ nI 0 = 1 then some (some (some (.inl (nI 0))), σ) else none)) := (EvOf_eq mcode _).trans rfl
set_option maxRecDepth 100000 in
set_option maxHeartbeats 4000000 in
theorem q_X9_again (p1 : Int32) (σ : mS) : e_X9_again p1 σ =
  if p1 < 0 then (
    if nI 0 = 0 ∨ nI 0 = 1 then some (some (some (.inl (nI 0))), σ) else none)
  else (
    if p1 < nI 2 then (
      if p1 < 0 ∨ 2 ≤ p1.toNatClampNeg then none else (
      if σ.1 (22, 0, 0, 0) p1.toNatClampNeg = 0 then (
        if nI 0 = 0 ∨ nI 0 = 1 then some (some (some (.inl (nI 0))), σ) else none)
      else (
        if p1 < 0 ∨ 2 ≤ p1.toNatClampNeg then none else (
        bdV (e_X0_become 0 (2 + p1.toNatClampNeg) σ) (fun σ1 =>
        let σ2 := st σ1 (5, 0, 0, 0) 1 (nI 0);
        if nI 1 = 0 ∨ nI 1 = 1 then some (some (some (.inl (nI 1))), σ2) else none)))))
    else (
      if nI 0 = 0 ∨ nI 0 = 1 then some (some (some (.inl (nI 0))), σ) else none)) := (EvOf_eq mcode _).trans rfl
set_option maxRecDepth 100000 in
set_option maxHeartbeats 4000000 in
theorem q_X9_count (p1 : Int32) (σ : mS) : e_X9_count p1 σ =
  if p1 = nI 0 then (
    some (some (some (.inl (σ.1 (0, 0, 0, 0) 3))), σ))
  else if p1 = nI 1 then (
    some (some (some (.inl (σ.1 (0, 0, 0, 0) 4))), σ))
  else if p1 = nI 2 then (
    bdI (e_X0_waiting 0 σ) (fun v2 σ1 =>
    some (some (some (.inl v2)), σ1)))
  else if p1 = nI 3 then (
    bdI (e_X0_exchangesOn 0 σ) (fun v4 σ3 =>
    some (some (some (.inl v4)), σ3)))
  else if p1 = nI 4 then (
    some (some (some (.inl (σ.1 (5, 0, 0, 0) 1))), σ))
  else if p1 = nI 5 then (
    some (some (some (.inl (σ.1 (4, 0, 0, 0) 1))), σ))
  else if p1 = nI 6 then (
    some (some (some (.inl (σ.1 (7, 0, 0, 0) 1))), σ))
  else if p1 = nI 7 then (
    bdI (e_X0_sumOf 0 (nI 0) σ) (fun v6 σ5 =>
    some (some (some (.inl v6)), σ5)))
  else (some (some (some (.inl (-1))), σ)) := (EvOf_eq mcode _).trans rfl
set_option maxRecDepth 100000 in
set_option maxHeartbeats 4000000 in
theorem q_X9_row (p1 : Int32) (σ : mS) : e_X9_row p1 σ =
  if p1 < 0 then (
    some (none, σ))
  else (
    if p1 < σ.1 (4, 0, 0, 0) 1 then (
      if p1 < 0 ∨ 16 ≤ p1.toNatClampNeg then none else (
      some (some (some (.inr (.inl (σ.2 (24, 0, 0, 0) p1.toNatClampNeg)))), σ)))
    else (
      some (none, σ))) := (EvOf_eq mcode _).trans rfl
set_option maxRecDepth 100000 in
set_option maxHeartbeats 4000000 in
theorem q_X9_isStation (p1 : Int32) (σ : mS) : e_X9_isStation p1 σ =
  if p1 < 0 then (
    if nI 0 = 0 ∨ nI 0 = 1 then some (some (some (.inl (nI 0))), σ) else none)
  else (
    if p1 < σ.1 (0, 0, 0, 0) 3 then (
      if nI 1 = 0 ∨ nI 1 = 1 then some (some (some (.inl (nI 1))), σ) else none)
    else (
      if nI 0 = 0 ∨ nI 0 = 1 then some (some (some (.inl (nI 0))), σ) else none)) := (EvOf_eq mcode _).trans rfl
set_option maxRecDepth 100000 in
set_option maxHeartbeats 4000000 in
theorem q_X9_isRank (p0 : Int32) (σ : mS) : e_X9_isRank p0 σ =
  if p0 < 0 then (
    if nI 0 = 0 ∨ nI 0 = 1 then some (some (some (.inl (nI 0))), σ) else none)
  else (
    if p0 < nI 4 then (
      if nI 1 = 0 ∨ nI 1 = 1 then some (some (some (.inl (nI 1))), σ) else none)
    else (
      if nI 0 = 0 ∨ nI 0 = 1 then some (some (some (.inl (nI 0))), σ) else none)) := (EvOf_eq mcode _).trans rfl
set_option maxRecDepth 100000 in
set_option maxHeartbeats 4000000 in
theorem q_X9_readPairs (p1 : Int32) (σ : mS) : e_X9_readPairs p1 σ =
  b_X9_readPairs_2 p1 (nI 0) σ := (EvOf_eq mcode _).trans rfl
set_option maxRecDepth 100000 in
set_option maxHeartbeats 4000000 in
theorem q_X9_readPairs_2 (x1 : Int32) (x2 : Int32) (σ : mS) : b_X9_readPairs_2 x1 x2 σ =
  if x2 < nI 36 then (
    if x2 < 0 ∨ 36 ≤ x2.toNatClampNeg then none else (
    let σ1 := st σ (25, 0, 0, 0) x2.toNatClampNeg (nI 0);
    b_X9_readPairs_2 x1 (x2 + 1) σ1))
  else (
    b_X9_readPairs_26 x1 (nI 1) σ) := (EvOf_eq mcode _).trans rfl
set_option maxRecDepth 100000 in
set_option maxHeartbeats 4000000 in
theorem q_X9_readPairs_26 (x1 : Int32) (x2 : Int32) (σ : mS) : b_X9_readPairs_26 x1 x2 σ =
  if x2 < σ.1 (7, 0, 0, 0) 1 then (
    bdI (e_X7_letterAt x2 x1 σ) (fun v2 σ1 =>
    if v2 < 0 then (
      some (some (some (.inl x2)), σ1))
    else (
      bdI (e_X7_letterAt (x2 + (nI 1)) x1 σ1) (fun v4 σ3 =>
      if v4 < 0 then (
        some (some (some (.inl (x2 + (nI 1)))), σ3))
      else (
        if v4 = v2 then (
          some (some (some (.inl (x2 + (nI 1)))), σ3))
        else (
          if (v2 * (nI 6)) + v4 < 0 ∨ 36 ≤ ((v2 * (nI 6)) + v4).toNatClampNeg then none else (
          if σ3.1 (25, 0, 0, 0) (((v2 * (nI 6)) + v4).toNatClampNeg) = 0 then (
            bdI (e_X7_digitAt (x2 + (nI 2)) (nI 1) (nI 3) σ3) (fun v6 σ5 =>
            if v6 < 0 then (
              some (some (some (.inl (x2 + (nI 2)))), σ5))
            else (
              if (v2 * (nI 6)) + v4 < 0 ∨ 36 ≤ ((v2 * (nI 6)) + v4).toNatClampNeg then none else (
              let σ7 := st σ5 (25, 0, 0, 0) (((v2 * (nI 6)) + v4).toNatClampNeg) v6;
              if (v4 * (nI 6)) + v2 < 0 ∨ 36 ≤ ((v4 * (nI 6)) + v2).toNatClampNeg then none else (
              let σ8 := st σ7 (25, 0, 0, 0) (((v4 * (nI 6)) + v2).toNatClampNeg) v6;
              b_X9_readPairs_26 x1 (x2 + 3) σ8)))))
          else (
            some (some (some (.inl (x2 + (nI 1)))), σ3)))))))))
  else (
    some (some (some (.inl (-1))), σ)) := (EvOf_eq mcode _).trans rfl
set_option maxRecDepth 100000 in
set_option maxHeartbeats 4000000 in
theorem q_X9_entryOf (p0 : Int32) (p1 : Int32) (σ : mS) : e_X9_entryOf p0 p1 σ =
  if p0 = 0 then (
    some (some (some (.inl ((p1).toInt8.toInt32))), σ))
  else (
    if p0 = nI 1 then (
      some (some (some (.inl ((p1).toInt16.toInt32))), σ))
    else (
      some (some (some (.inl p1)), σ))) := (EvOf_eq mcode _).trans rfl
set_option maxRecDepth 100000 in
set_option maxHeartbeats 4000000 in
theorem q_X9_comesFromEntry (p1 : Int32) (p2 : Int32) (p3 : Int32) (σ : mS) : e_X9_comesFromEntry p1 p2 p3 σ =
  if p1 + (nI 1) < σ.1 (0, 0, 0, 0) 3 then (
    if 0 < p3 then (
      bdI (e_X0_hear 0 p1 (p1 + (nI 1)) σ) (fun v2 σ1 =>
      if v2 = 0 then (
        if nI 0 = 0 ∨ nI 0 = 1 then some (some (some (.inl (nI 0))), σ1) else none)
      else (
        if nI 9 = 0 then none else (
        bdI (e_X0_takeFrame 0 p1 p2 (p1 + (nI 1)) ((p3 - p3 / (nI 9) * (nI 9)) + (nI 1)) σ1) (fun v4 σ3 =>
        if nI 1 = 0 ∨ nI 1 = 1 then some (some (some (.inl (nI 1))), σ3) else none)))))
    else (
      if nI 0 = 0 ∨ nI 0 = 1 then some (some (some (.inl (nI 0))), σ) else none))
  else (
    if 0 < p3 then (
      bdI (e_X0_hear 0 p1 (nI 0) σ) (fun v6 σ5 =>
      if v6 = 0 then (
        if nI 0 = 0 ∨ nI 0 = 1 then some (some (some (.inl (nI 0))), σ5) else none)
      else (
        if nI 9 = 0 then none else (
        bdI (e_X0_takeFrame 0 p1 p2 (nI 0) ((p3 - p3 / (nI 9) * (nI 9)) + (nI 1)) σ5) (fun v8 σ7 =>
        if nI 1 = 0 ∨ nI 1 = 1 then some (some (some (.inl (nI 1))), σ7) else none)))))
    else (
      if nI 0 = 0 ∨ nI 0 = 1 then some (some (some (.inl (nI 0))), σ) else none)) := (EvOf_eq mcode _).trans rfl
set_option maxRecDepth 100000 in
set_option maxHeartbeats 4000000 in
theorem q_X9_waysAlone (p0 : Int32) (p1 : Int32) (σ : mS) : e_X9_waysAlone p0 p1 σ =
  b_X9_waysAlone_5 p0 p1 (lN 0) (nI 0) σ := (EvOf_eq mcode _).trans rfl
set_option maxRecDepth 100000 in
set_option maxHeartbeats 4000000 in
theorem q_X9_waysAlone_5 (x0 : Int32) (x1 : Int32) (y2 : Int64) (x4 : Int32) (σ : mS) : b_X9_waysAlone_5 x0 x1 y2 x4 σ =
  if x1 < x4 then (
    some (some (some (.inr (.inl (((x0).toInt64) * y2)))), σ))
  else (
    bdL (e_X9_power x4 (x0 - (nI 1)) σ) (fun v2 σ1 =>
    b_X9_waysAlone_5 x0 x1 (y2 + v2) (x4 + 1) σ1)) := (EvOf_eq mcode _).trans rfl
set_option maxRecDepth 100000 in
set_option maxHeartbeats 4000000 in
theorem q_X9_power (p0 : Int32) (p1 : Int32) (σ : mS) : e_X9_power p0 p1 σ =
  b_X9_power_5 p0 p1 (lN 1) (nI 0) σ := (EvOf_eq mcode _).trans rfl
set_option maxRecDepth 100000 in
set_option maxHeartbeats 4000000 in
theorem q_X9_power_5 (x0 : Int32) (x1 : Int32) (y2 : Int64) (x4 : Int32) (σ : mS) : b_X9_power_5 x0 x1 y2 x4 σ =
  if x4 < x1 then (
    b_X9_power_5 x0 x1 (y2 * ((x0).toInt64)) (x4 + 1) σ)
  else (
    some (some (some (.inr (.inl y2))), σ)) := (EvOf_eq mcode _).trans rfl
set_option maxRecDepth 100000 in
set_option maxHeartbeats 4000000 in
theorem q_X9_slotsTillDelivered (p1 : Int32) (p2 : Int32) (σ : mS) : e_X9_slotsTillDelivered p1 p2 σ =
  bdV (e_X0_become 1 0 σ) (fun σ1 =>
  bdI (e_X0_takeFrame 1 p1 (nI 0) p2 (nI 1) σ1) (fun v3 σ2 =>
  bdV (e_X0_markLast 1 p1 (nI 0) σ2) (fun σ4 =>
  b_X9_slotsTillDelivered_34 (nI 1) σ4))) := (EvOf_eq mcode _).trans rfl
set_option maxRecDepth 100000 in
set_option maxHeartbeats 4000000 in
theorem q_X9_slotsTillDelivered_34 (x3 : Int32) (σ : mS) : b_X9_slotsTillDelivered_34 x3 σ =
  if nI 99 < x3 then (
    some (some (some (.inl (nI 100))), σ))
  else (
    bdV (e_X0_passSlot 1 σ) (fun σ1 =>
    if σ1.1 (0, 1, 0, 0) 12 = 0 then (
      b_X9_slotsTillDelivered_34 (x3 + 1) σ1)
    else (
      some (some (some (.inl x3)), σ1)))) := (EvOf_eq mcode _).trans rfl
set_option maxRecDepth 100000 in
set_option maxHeartbeats 4000000 in
theorem q_X9_actLength (p1 : Int32) (σ : mS) : e_X9_actLength p1 σ =
  bdI (e_X7_at p1 σ) (fun v2 σ1 =>
  if v2 = nI 102 then (
    some (some (some (.inl (nI 5))), σ1))
  else (
    if v2 = nI 115 then (
      some (some (some (.inl (nI 3))), σ1))
    else (
      some (some (some (.inl (nI 1))), σ1)))) := (EvOf_eq mcode _).trans rfl
set_option maxRecDepth 100000 in
set_option maxHeartbeats 4000000 in
theorem q_X9_faultInDay (σ : mS) : e_X9_faultInDay σ =
  b_X9_faultInDay_4 (nI 0) (nI 0) σ := (EvOf_eq mcode _).trans rfl
set_option maxRecDepth 100000 in
set_option maxHeartbeats 4000000 in
theorem q_X9_faultInDay_4 (x1 : Int32) (x2 : Int32) (σ : mS) : b_X9_faultInDay_4 x1 x2 σ =
  if x2 < nI 80 then (
    if x1 < σ.1 (7, 0, 0, 0) 1 then (
      bdI (e_X9_faultInAct x1 σ) (fun v2 σ1 =>
      if v2 < 0 then (
        bdI (e_X9_actLength x1 σ1) (fun v4 σ3 =>
        b_X9_faultInDay_4 (x1 + v4) (x2 + 1) σ3))
      else (
        some (some (some (.inl v2)), σ1))))
    else (
      some (some (some (.inl (-1))), σ)))
  else (
    some (some (some (.inl (-1))), σ)) := (EvOf_eq mcode _).trans rfl
set_option maxRecDepth 100000 in
set_option maxHeartbeats 4000000 in
theorem q_X9_faultInAct (p1 : Int32) (σ : mS) : e_X9_faultInAct p1 σ =
  bdI (e_X7_at p1 σ) (fun v2 σ1 =>
  if v2 = nI 100 then (
    some (some (some (.inl (-1))), σ1))
  else (
    if v2 = nI 115 then (
      bdI (e_X7_digitAt (p1 + (nI 1)) (nI 0) (nI 9) σ1) (fun v4 σ3 =>
      if v4 < 0 then (
        some (some (some (.inl (p1 + (nI 1)))), σ3))
      else (
        bdI (e_X7_digitAt (p1 + (nI 2)) (nI 0) (nI 9) σ3) (fun v6 σ5 =>
        if v6 < 0 then (
          some (some (some (.inl (p1 + (nI 2)))), σ5))
        else (
          some (some (some (.inl (-1))), σ5))))))
    else (
      if v2 = nI 102 then (
        bdI (e_X7_letterAt (p1 + (nI 1)) (nI 6) σ1) (fun v8 σ7 =>
        if v8 < 0 then (
          some (some (some (.inl (p1 + (nI 1)))), σ7))
        else (
          bdI (e_X7_digitAt (p1 + (nI 2)) (nI 0) (nI 3) σ7) (fun v10 σ9 =>
          if v10 < 0 then (
            some (some (some (.inl (p1 + (nI 2)))), σ9))
          else (
            bdI (e_X7_letterAt (p1 + (nI 3)) (nI 6) σ9) (fun v12 σ11 =>
            if v12 < 0 then (
              some (some (some (.inl (p1 + (nI 3)))), σ11))
            else (
              bdI (e_X7_digitAt (p1 + (nI 4)) (nI 1) (nI 9) σ11) (fun v14 σ13 =>
              if v14 < 0 then (
                some (some (some (.inl (p1 + (nI 4)))), σ13))
              else (
                some (some (some (.inl (-1))), σ13))))))))))
      else (
        some (some (some (.inl p1)), σ1))))) := (EvOf_eq mcode _).trans rfl
set_option maxRecDepth 100000 in
set_option maxHeartbeats 4000000 in
theorem q_X9_doAct (p1 : Int32) (σ : mS) : e_X9_doAct p1 σ =
  bdI (e_X7_at p1 σ) (fun v2 σ1 =>
  if v2 = nI 100 then (
    bdI (e_X0_drawAll 0 σ1) (fun v4 σ3 =>
    if nI 1 = 0 ∨ nI 1 = 1 then some (some (some (.inl (nI 1))), σ3) else none))
  else (
    if v2 = nI 115 then (
      bdI (e_X7_digitAt (p1 + (nI 1)) (nI 0) (nI 9) σ1) (fun v6 σ5 =>
      bdI (e_X7_digitAt (p1 + (nI 2)) (nI 0) (nI 9) σ5) (fun v8 σ7 =>
      if ((nI 10) * v6) + v8 < nI 1 then (
        if nI 0 = 0 ∨ nI 0 = 1 then some (some (some (.inl (nI 0))), σ7) else none)
      else (
        if nI 60 < ((nI 10) * v6) + v8 then (
          if nI 0 = 0 ∨ nI 0 = 1 then some (some (some (.inl (nI 0))), σ7) else none)
        else (
          b_X9_doAct_78 (((nI 10) * v6) + v8) (nI 0) σ7)))))
    else (
      bdI (e_X7_letterAt (p1 + (nI 1)) (nI 6) σ1) (fun v10 σ9 =>
      bdI (e_X7_digitAt (p1 + (nI 2)) (nI 0) (nI 3) σ9) (fun v12 σ11 =>
      bdI (e_X7_letterAt (p1 + (nI 3)) (nI 6) σ11) (fun v14 σ13 =>
      bdI (e_X7_digitAt (p1 + (nI 4)) (nI 1) (nI 9) σ13) (fun v16 σ15 =>
      bdI (e_X0_whyNotOffer 0 v10 v12 v14 v16 σ15) (fun v18 σ17 =>
      if v18 < 0 then (
        if nI 0 = 0 ∨ nI 0 = 1 then some (some (some (.inl (nI 0))), σ17) else none)
      else (
        bdI (e_X0_takeFrame 0 v10 v12 v14 v16 σ17) (fun v20 σ19 =>
        if nI 1 = 0 ∨ nI 1 = 1 then some (some (some (.inl (nI 1))), σ19) else none)))))))))) := (EvOf_eq mcode _).trans rfl
set_option maxRecDepth 100000 in
set_option maxHeartbeats 4000000 in
theorem q_X9_doAct_78 (x3 : Int32) (x4 : Int32) (σ : mS) : b_X9_doAct_78 x3 x4 σ =
  if x4 < x3 then (
    bdV (e_X0_passSlot 0 σ) (fun σ1 =>
    b_X9_doAct_78 x3 (x4 + 1) σ1))
  else (
    if nI 1 = 0 ∨ nI 1 = 1 then some (some (some (.inl (nI 1))), σ) else none) := (EvOf_eq mcode _).trans rfl
set_option maxRecDepth 100000 in
set_option maxHeartbeats 4000000 in
theorem q_X9_offerDrawn (σ : mS) : e_X9_offerDrawn σ =
  bdI (e_X1_draw 10 (nI 6) σ) (fun v2 σ1 =>
  bdI (e_X1_draw 10 (nI 4) σ1) (fun v4 σ3 =>
  bdI (e_X1_draw 10 (nI 6) σ3) (fun v6 σ5 =>
  bdI (e_X1_draw 10 (nI 9) σ5) (fun v8 σ7 =>
  bdI (e_X0_whyNotOffer 1 v2 v4 v6 (v8 + (nI 1)) σ7) (fun v10 σ9 =>
  if v10 = 0 then (
    bdI (e_X0_takeFrame 1 v2 v4 v6 (v8 + (nI 1)) σ9) (fun v12 σ11 =>
    some (some none, σ11)))
  else (
    some (some none, σ9))))))) := (EvOf_eq mcode _).trans rfl
end
section
/-! What each block comes to (by program out of the mini-code) -/
set_option maxRecDepth 100000 in
set_option maxHeartbeats 4000000 in
theorem q_X1_draw (oa : Nat) (p1 : Int32) (σ : mS) : e_X1_draw oa p1 σ =
  let σ1 := st σ (1, oa, 0, 0) 0 (((σ.1 (1, oa, 0, 0) 0) * (nI 1103515245)) + (nI 12345));
  if p1 < nI 1 then (
    some (some (some (.inl (nI 0))), σ1))
  else (
    if p1 = 0 then none else (
    some (some (some (.inl ((iushr (σ1.1 (1, oa, 0, 0) 0) (nI 16)) - (iushr (σ1.1 (1, oa, 0, 0) 0) (nI 16)) / p1 * p1))), σ1))) := (EvOf_eq mcode _).trans rfl
set_option maxRecDepth 100000 in
set_option maxHeartbeats 4000000 in
theorem q_X2_become (oa : Nat) (os : Nat) (p1a : Nat) (p1s : Nat) (σ : mS) : e_X2_become oa os p1a p1s σ =
  if σ.1 (2, p1a, p1s, 0) 0 = 0 ∨ σ.1 (2, p1a, p1s, 0) 0 = 1 then (
  let σ1 := st σ (2, oa, os, 0) 0 (σ.1 (2, p1a, p1s, 0) 0);
  let σ2 := st σ1 (2, oa, os, 0) 1 (σ1.1 (2, p1a, p1s, 0) 1);
  let σ3 := st σ2 (2, oa, os, 0) 2 (σ2.1 (2, p1a, p1s, 0) 2);
  let σ4 := st σ3 (2, oa, os, 0) 3 (σ3.1 (2, p1a, p1s, 0) 3);
  let σ5 := st σ4 (2, oa, os, 0) 4 (σ4.1 (2, p1a, p1s, 0) 4);
  let σ6 := st σ5 (2, oa, os, 0) 5 (σ5.1 (2, p1a, p1s, 0) 5);
  let σ7 := st σ6 (2, oa, os, 0) 6 (σ6.1 (2, p1a, p1s, 0) 6);
  let σ8 := st σ7 (2, oa, os, 0) 7 (σ7.1 (2, p1a, p1s, 0) 7);
  let σ9 := st σ8 (2, oa, os, 0) 8 (σ8.1 (2, p1a, p1s, 0) 8);
  let σ10 := st σ9 (2, oa, os, 0) 9 (σ9.1 (2, p1a, p1s, 0) 9);
  let σ11 := st σ10 (2, oa, os, 0) 10 (σ10.1 (2, p1a, p1s, 0) 10);
  let σ12 := st σ11 (2, oa, os, 0) 11 (σ11.1 (2, p1a, p1s, 0) 11);
  if σ12.1 (2, p1a, p1s, 0) 12 = 0 ∨ σ12.1 (2, p1a, p1s, 0) 12 = 1 then (
  let σ13 := st σ12 (2, oa, os, 0) 12 (σ12.1 (2, p1a, p1s, 0) 12);
  some (some none, σ13)) else none) else none := (EvOf_eq mcode _).trans rfl
set_option maxRecDepth 100000 in
set_option maxHeartbeats 4000000 in
theorem q_X2_sends (oa : Nat) (os : Nat) (σ : mS) : e_X2_sends oa os σ =
  if σ.1 (2, oa, os, 0) 0 = 0 then (
    if nI 0 = 0 ∨ nI 0 = 1 then some (some (some (.inl (nI 0))), σ) else none)
  else (
    if σ.1 (2, oa, os, 0) 5 = 0 then (
      if nI 1 = 0 ∨ nI 1 = 1 then some (some (some (.inl (nI 1))), σ) else none)
    else (
      if σ.1 (2, oa, os, 0) 5 = nI 2 then (
        if nI 1 = 0 ∨ nI 1 = 1 then some (some (some (.inl (nI 1))), σ) else none)
      else (
        if nI 0 = 0 ∨ nI 0 = 1 then some (some (some (.inl (nI 0))), σ) else none))) := (EvOf_eq mcode _).trans rfl
set_option maxRecDepth 100000 in
set_option maxHeartbeats 4000000 in
theorem q_X3_become (oa : Nat) (os : Nat) (p1a : Nat) (p1s : Nat) (σ : mS) : e_X3_become oa os p1a p1s σ =
  if nI 9 < 0 ∨ nI 0 < 0 ∨ nI 0 < 0 ∨ 9 < (nI 0).toNatClampNeg + (nI 9).toNatClampNeg ∨ 9 < (nI 0).toNatClampNeg + (nI 9).toNatClampNeg then none else (
  let σ1 := stC σ (15, p1a, p1s, 0) ((nI 0).toNatClampNeg) (15, oa, os, 0) ((nI 0).toNatClampNeg) ((nI 9).toNatClampNeg);
  if nI 6 < 0 ∨ nI 0 < 0 ∨ nI 0 < 0 ∨ 6 < (nI 0).toNatClampNeg + (nI 6).toNatClampNeg ∨ 6 < (nI 0).toNatClampNeg + (nI 6).toNatClampNeg then none else (
  let σ2 := stC σ1 (16, p1a, p1s, 0) ((nI 0).toNatClampNeg) (16, oa, os, 0) ((nI 0).toNatClampNeg) ((nI 6).toNatClampNeg);
  let σ3 := st σ2 (3, oa, os, 0) 2 (σ2.1 (3, p1a, p1s, 0) 2);
  let σ4 := st σ3 (3, oa, os, 0) 3 (σ3.1 (3, p1a, p1s, 0) 3);
  let σ5 := st σ4 (3, oa, os, 0) 4 (σ4.1 (3, p1a, p1s, 0) 4);
  let σ6 := st σ5 (3, oa, os, 0) 5 (σ5.1 (3, p1a, p1s, 0) 5);
  let σ7 := st σ6 (3, oa, os, 0) 6 (σ6.1 (3, p1a, p1s, 0) 6);
  let σ8 := st σ7 (3, oa, os, 0) 7 (σ7.1 (3, p1a, p1s, 0) 7);
  let σ9 := st σ8 (3, oa, os, 0) 8 (σ8.1 (3, p1a, p1s, 0) 8);
  some (some none, σ9))) := (EvOf_eq mcode _).trans rfl
set_option maxRecDepth 100000 in
set_option maxHeartbeats 4000000 in
theorem q_X3_startAnew (oa : Nat) (os : Nat) (σ : mS) : e_X3_startAnew oa os σ =
  b_X3_startAnew_2 oa os (nI 0) σ := (EvOf_eq mcode _).trans rfl
set_option maxRecDepth 100000 in
set_option maxHeartbeats 4000000 in
theorem q_X3_startAnew_2 (o0a : Nat) (o0s : Nat) (x1 : Int32) (σ : mS) : b_X3_startAnew_2 o0a o0s x1 σ =
  if x1 < nI 9 then (
    if x1 < 0 ∨ 9 ≤ x1.toNatClampNeg then none else (
    let σ1 := st σ (15, o0a, o0s, 0) x1.toNatClampNeg (nI 0);
    b_X3_startAnew_2 o0a o0s (x1 + 1) σ1))
  else (
    b_X3_startAnew_23 o0a o0s (nI 0) σ) := (EvOf_eq mcode _).trans rfl
set_option maxRecDepth 100000 in
set_option maxHeartbeats 4000000 in
theorem q_X3_startAnew_23 (o0a : Nat) (o0s : Nat) (x1 : Int32) (σ : mS) : b_X3_startAnew_23 o0a o0s x1 σ =
  if x1 < nI 6 then (
    if x1 < 0 ∨ 6 ≤ x1.toNatClampNeg then none else (
    let σ1 := st σ (16, o0a, o0s, 0) x1.toNatClampNeg (nI 0);
    b_X3_startAnew_23 o0a o0s (x1 + 1) σ1))
  else (
    let σ2 := st σ (3, o0a, o0s, 0) 2 (nI 0);
    let σ3 := st σ2 (3, o0a, o0s, 0) 3 (nI 0);
    let σ4 := st σ3 (3, o0a, o0s, 0) 4 (nI 0);
    let σ5 := st σ4 (3, o0a, o0s, 0) 5 (nI 0);
    let σ6 := st σ5 (3, o0a, o0s, 0) 6 (nI 0);
    let σ7 := st σ6 (3, o0a, o0s, 0) 7 (nI 0);
    let σ8 := st σ7 (3, o0a, o0s, 0) 8 (nI 0);
    some (some none, σ8)) := (EvOf_eq mcode _).trans rfl
set_option maxRecDepth 100000 in
set_option maxHeartbeats 4000000 in
theorem q_X3_delivered (oa : Nat) (os : Nat) (p1 : Int32) (p2 : Int32) (σ : mS) : e_X3_delivered oa os p1 p2 σ =
  if nI 0 < 0 ∨ 9 ≤ (nI 0).toNatClampNeg then none else (
  if nI 0 < 0 ∨ 9 ≤ (nI 0).toNatClampNeg then none else (
  let σ1 := st σ (15, oa, os, 0) ((nI 0).toNatClampNeg) ((σ.1 (15, oa, os, 0) ((nI 0).toNatClampNeg)) + (nI 1));
  if nI 1 < 0 ∨ 9 ≤ (nI 1).toNatClampNeg then none else (
  if nI 1 < 0 ∨ 9 ≤ (nI 1).toNatClampNeg then none else (
  let σ2 := st σ1 (15, oa, os, 0) ((nI 1).toNatClampNeg) ((σ1.1 (15, oa, os, 0) ((nI 1).toNatClampNeg)) + p1);
  if nI 7 < 0 ∨ 9 ≤ (nI 7).toNatClampNeg then none else (
  if nI 7 < 0 ∨ 9 ≤ (nI 7).toNatClampNeg then none else (
  let σ3 := st σ2 (15, oa, os, 0) ((nI 7).toNatClampNeg) ((σ2.1 (15, oa, os, 0) ((nI 7).toNatClampNeg)) + p2);
  if nI 8 < 0 ∨ 9 ≤ (nI 8).toNatClampNeg then none else (
  if nI 8 < 0 ∨ 9 ≤ (nI 8).toNatClampNeg then none else (
  let σ4 := st σ3 (15, oa, os, 0) ((nI 8).toNatClampNeg) (if σ3.1 (15, oa, os, 0) ((nI 8).toNatClampNeg) < p2 then p2 else σ3.1 (15, oa, os, 0) ((nI 8).toNatClampNeg));
  some (some none, σ4))))))))) := (EvOf_eq mcode _).trans rfl
set_option maxRecDepth 100000 in
set_option maxHeartbeats 4000000 in
theorem q_X4_forget (σ : mS) : e_X4_forget σ =
  let σ1 := st σ (4, 0, 0, 0) 1 (nI 0);
  some (some none, σ1) := (EvOf_eq mcode _).trans rfl
set_option maxRecDepth 100000 in
set_option maxHeartbeats 4000000 in
theorem q_X4_add (p1 : Int64) (σ : mS) : e_X4_add p1 σ =
  if σ.1 (4, 0, 0, 0) 1 < nI 16 then (
    if σ.1 (4, 0, 0, 0) 1 < 0 ∨ 16 ≤ (σ.1 (4, 0, 0, 0) 1).toNatClampNeg then none else (
    let σ1 := stL σ (24, 0, 0, 0) ((σ.1 (4, 0, 0, 0) 1).toNatClampNeg) p1;
    let σ2 := st σ1 (4, 0, 0, 0) 1 ((σ1.1 (4, 0, 0, 0) 1) + (nI 1));
    some (some none, σ2)))
  else (
    some (some none, σ)) := (EvOf_eq mcode _).trans rfl
set_option maxRecDepth 100000 in
set_option maxHeartbeats 4000000 in
theorem q_X4_tellOne (p1 : Int64) (σ : mS) : e_X4_tellOne p1 σ =
  bdV (e_X4_forget σ) (fun σ1 =>
  bdV (e_X4_add p1 σ1) (fun σ2 =>
  some (some none, σ2))) := (EvOf_eq mcode _).trans rfl
set_option maxRecDepth 100000 in
set_option maxHeartbeats 4000000 in
theorem q_X4_tellTwo (p1 : Int64) (p3 : Int64) (σ : mS) : e_X4_tellTwo p1 p3 σ =
  bdV (e_X4_tellOne p1 σ) (fun σ1 =>
  bdV (e_X4_add p3 σ1) (fun σ2 =>
  some (some none, σ2))) := (EvOf_eq mcode _).trans rfl
set_option maxRecDepth 100000 in
set_option maxHeartbeats 4000000 in
theorem q_X4_tellThree (p1 : Int64) (p3 : Int64) (p5 : Int64) (σ : mS) : e_X4_tellThree p1 p3 p5 σ =
  bdV (e_X4_tellTwo p1 p3 σ) (fun σ1 =>
  bdV (e_X4_add p5 σ1) (fun σ2 =>
  some (some none, σ2))) := (EvOf_eq mcode _).trans rfl
set_option maxRecDepth 100000 in
set_option maxHeartbeats 4000000 in
theorem q_X4_tellPart (p1 : Int64) (p3 : Int64) (σ : mS) : e_X4_tellPart p1 p3 σ =
  b_X4_tellPart_9 p1 p3 p1 p3 (nI 0) σ := (EvOf_eq mcode _).trans rfl
set_option maxRecDepth 100000 in
set_option maxHeartbeats 4000000 in
theorem q_X4_tellPart_9 (y1 : Int64) (y3 : Int64) (y5 : Int64) (y7 : Int64) (x9 : Int32) (σ : mS) : b_X4_tellPart_9 y1 y3 y5 y7 x9 σ =
  if x9 < nI 100 then (
    if lg_cmp y7 (lN 0) = 0 then (
      if 0 < lg_cmp y5 (lN 0) then (
        if y5 = 0 then none else (
        if y5 = 0 then none else (
        bdV (e_X4_tellTwo (y1 / y5) (y3 / y5) σ) (fun σ1 =>
        some (some none, σ1)))))
      else (
        some (some none, σ)))
    else (
      if y7 = 0 then none else (
      b_X4_tellPart_9 y1 y3 y7 (y5 - y5 / y7 * y7) (x9 + 1) σ)))
  else (
    if 0 < lg_cmp y5 (lN 0) then (
      if y5 = 0 then none else (
      if y5 = 0 then none else (
      bdV (e_X4_tellTwo (y1 / y5) (y3 / y5) σ) (fun σ2 =>
      some (some none, σ2)))))
    else (
      some (some none, σ))) := (EvOf_eq mcode _).trans rfl
set_option maxRecDepth 100000 in
set_option maxHeartbeats 4000000 in
theorem q_X5_push (p1a : Nat) (σ : mS) : e_X5_push p1a σ =
  if (σ.1 (5, 0, 0, 0) 2) + (nI 1) < nI 6 then (
    let σ1 := st σ (5, 0, 0, 0) 2 ((σ.1 (5, 0, 0, 0) 2) + (nI 1));
    if σ1.1 (5, 0, 0, 0) 2 < 0 ∨ 6 ≤ (σ1.1 (5, 0, 0, 0) 2).toNatClampNeg then none else (
    bdV (e_X0_become (4 + (σ1.1 (5, 0, 0, 0) 2).toNatClampNeg) p1a σ1) (fun σ2 =>
    if σ2.1 (5, 0, 0, 0) 1 < nI 6 then (
      let σ3 := st σ2 (5, 0, 0, 0) 1 ((σ2.1 (5, 0, 0, 0) 1) + (nI 1));
      some (some none, σ3))
    else (
      some (some none, σ2)))))
  else (
    let σ4 := st σ (5, 0, 0, 0) 2 (nI 0);
    if σ4.1 (5, 0, 0, 0) 2 < 0 ∨ 6 ≤ (σ4.1 (5, 0, 0, 0) 2).toNatClampNeg then none else (
    bdV (e_X0_become (4 + (σ4.1 (5, 0, 0, 0) 2).toNatClampNeg) p1a σ4) (fun σ5 =>
    if σ5.1 (5, 0, 0, 0) 1 < nI 6 then (
      let σ6 := st σ5 (5, 0, 0, 0) 1 ((σ5.1 (5, 0, 0, 0) 1) + (nI 1));
      some (some none, σ6))
    else (
      some (some none, σ5))))) := (EvOf_eq mcode _).trans rfl
set_option maxRecDepth 100000 in
set_option maxHeartbeats 4000000 in
theorem q_X5_popInto (p1a : Nat) (σ : mS) : e_X5_popInto p1a σ =
  if σ.1 (5, 0, 0, 0) 1 < nI 1 then (
    if nI 0 = 0 ∨ nI 0 = 1 then some (some (some (.inl (nI 0))), σ) else none)
  else (
    if σ.1 (5, 0, 0, 0) 2 < 0 ∨ 6 ≤ (σ.1 (5, 0, 0, 0) 2).toNatClampNeg then none else (
    bdV (e_X0_become p1a (4 + (σ.1 (5, 0, 0, 0) 2).toNatClampNeg) σ) (fun σ1 =>
    if 0 < σ1.1 (5, 0, 0, 0) 2 then (
      let σ2 := st σ1 (5, 0, 0, 0) 2 ((σ1.1 (5, 0, 0, 0) 2) - (nI 1));
      let σ3 := st σ2 (5, 0, 0, 0) 1 ((σ2.1 (5, 0, 0, 0) 1) - (nI 1));
      if nI 1 = 0 ∨ nI 1 = 1 then some (some (some (.inl (nI 1))), σ3) else none)
    else (
      let σ4 := st σ1 (5, 0, 0, 0) 2 (nI 5);
      let σ5 := st σ4 (5, 0, 0, 0) 1 ((σ4.1 (5, 0, 0, 0) 1) - (nI 1));
      if nI 1 = 0 ∨ nI 1 = 1 then some (some (some (.inl (nI 1))), σ5) else none)))) := (EvOf_eq mcode _).trans rfl
set_option maxRecDepth 100000 in
set_option maxHeartbeats 4000000 in
theorem q_X6_become (oa : Nat) (os : Nat) (or : Nat) (p1a : Nat) (p1s : Nat) (p1r : Nat) (σ : mS) : e_X6_become oa os or p1a p1s p1r σ =
  if nI 40 < 0 ∨ nI 0 < 0 ∨ nI 0 < 0 ∨ 40 < (nI 0).toNatClampNeg + (nI 40).toNatClampNeg ∨ 40 < (nI 0).toNatClampNeg + (nI 40).toNatClampNeg then none else (
  let σ1 := stC σ (14, p1a, p1s, p1r) ((nI 0).toNatClampNeg) (14, oa, os, or) ((nI 0).toNatClampNeg) ((nI 40).toNatClampNeg);
  let σ2 := st σ1 (6, oa, os, or) 1 (σ1.1 (6, p1a, p1s, p1r) 1);
  let σ3 := st σ2 (6, oa, os, or) 2 (σ2.1 (6, p1a, p1s, p1r) 2);
  let σ4 := st σ3 (6, oa, os, or) 3 (σ3.1 (6, p1a, p1s, p1r) 3);
  some (some none, σ4)) := (EvOf_eq mcode _).trans rfl
set_option maxRecDepth 100000 in
set_option maxHeartbeats 4000000 in
theorem q_X6_fieldOf (oa : Nat) (os : Nat) (or : Nat) (p1 : Int32) (p2 : Int32) (σ : mS) : e_X6_fieldOf oa os or p1 p2 σ =
  if p1 < 0 then (
    some (some (some (.inl (-1))), σ))
  else (
    if p1 < σ.1 (6, oa, os, or) 1 then (
      if (p1 * (nI 5)) + p2 < 0 ∨ 40 ≤ ((p1 * (nI 5)) + p2).toNatClampNeg then none else (
      some (some (some (.inl (σ.1 (14, oa, os, or) (((p1 * (nI 5)) + p2).toNatClampNeg)))), σ)))
    else (
      some (some (some (.inl (-1))), σ))) := (EvOf_eq mcode _).trans rfl
set_option maxRecDepth 100000 in
set_option maxHeartbeats 4000000 in
theorem q_X6_addLast (oa : Nat) (os : Nat) (or : Nat) (p1 : Int32) (p2 : Int32) (p3 : Int32) (σ : mS) : e_X6_addLast oa os or p1 p2 p3 σ =
  if σ.1 (6, oa, os, or) 1 < nI 8 then (
    if ((σ.1 (6, oa, os, or) 1) * (nI 5)) + (nI 0) < 0 ∨ 40 ≤ (((σ.1 (6, oa, os, or) 1) * (nI 5)) + (nI 0)).toNatClampNeg then none else (
    let σ1 := st σ (14, oa, os, or) ((((σ.1 (6, oa, os, or) 1) * (nI 5)) + (nI 0)).toNatClampNeg) p1;
    if ((σ.1 (6, oa, os, or) 1) * (nI 5)) + (nI 1) < 0 ∨ 40 ≤ (((σ.1 (6, oa, os, or) 1) * (nI 5)) + (nI 1)).toNatClampNeg then none else (
    let σ2 := st σ1 (14, oa, os, or) ((((σ.1 (6, oa, os, or) 1) * (nI 5)) + (nI 1)).toNatClampNeg) p2;
    if ((σ.1 (6, oa, os, or) 1) * (nI 5)) + (nI 2) < 0 ∨ 40 ≤ (((σ.1 (6, oa, os, or) 1) * (nI 5)) + (nI 2)).toNatClampNeg then none else (
    let σ3 := st σ2 (14, oa, os, or) ((((σ.1 (6, oa, os, or) 1) * (nI 5)) + (nI 2)).toNatClampNeg) (nI 0);
    if ((σ.1 (6, oa, os, or) 1) * (nI 5)) + (nI 3) < 0 ∨ 40 ≤ (((σ.1 (6, oa, os, or) 1) * (nI 5)) + (nI 3)).toNatClampNeg then none else (
    let σ4 := st σ3 (14, oa, os, or) ((((σ.1 (6, oa, os, or) 1) * (nI 5)) + (nI 3)).toNatClampNeg) p3;
    if ((σ.1 (6, oa, os, or) 1) * (nI 5)) + (nI 4) < 0 ∨ 40 ≤ (((σ.1 (6, oa, os, or) 1) * (nI 5)) + (nI 4)).toNatClampNeg then none else (
    let σ5 := st σ4 (14, oa, os, or) ((((σ.1 (6, oa, os, or) 1) * (nI 5)) + (nI 4)).toNatClampNeg) (nI 0);
    let σ6 := st σ5 (6, oa, os, or) 1 ((σ5.1 (6, oa, os, or) 1) + (nI 1));
    some (some none, σ6)))))))
  else (
    some (some none, σ)) := (EvOf_eq mcode _).trans rfl
set_option maxRecDepth 100000 in
set_option maxHeartbeats 4000000 in
theorem q_X6_tryAgain (oa : Nat) (os : Nat) (or : Nat) (p1 : Int32) (σ : mS) : e_X6_tryAgain oa os or p1 σ =
  if p1 < 0 then (
    some (some (some (.inl (nI 0))), σ))
  else (
    if p1 < σ.1 (6, oa, os, or) 1 then (
      if (p1 * (nI 5)) + (nI 2) < 0 ∨ 40 ≤ ((p1 * (nI 5)) + (nI 2)).toNatClampNeg then none else (
      if (p1 * (nI 5)) + (nI 2) < 0 ∨ 40 ≤ ((p1 * (nI 5)) + (nI 2)).toNatClampNeg then none else (
      let σ1 := st σ (14, oa, os, or) (((p1 * (nI 5)) + (nI 2)).toNatClampNeg) ((σ.1 (14, oa, os, or) (((p1 * (nI 5)) + (nI 2)).toNatClampNeg)) + (nI 1));
      if (p1 * (nI 5)) + (nI 2) < 0 ∨ 40 ≤ ((p1 * (nI 5)) + (nI 2)).toNatClampNeg then none else (
      some (some (some (.inl (σ1.1 (14, oa, os, or) (((p1 * (nI 5)) + (nI 2)).toNatClampNeg)))), σ1)))))
    else (
      some (some (some (.inl (nI 0))), σ))) := (EvOf_eq mcode _).trans rfl
set_option maxRecDepth 100000 in
set_option maxHeartbeats 4000000 in
theorem q_X6_removeAt (oa : Nat) (os : Nat) (or : Nat) (p1 : Int32) (σ : mS) : e_X6_removeAt oa os or p1 σ =
  if p1 < 0 then (
    some (some none, σ))
  else (
    if p1 < σ.1 (6, oa, os, or) 1 then (
      b_X6_removeAt_19 oa os or ((p1 + (nI 1)) * (nI 5)) σ)
    else (
      some (some none, σ))) := (EvOf_eq mcode _).trans rfl
set_option maxRecDepth 100000 in
set_option maxHeartbeats 4000000 in
theorem q_X6_removeAt_19 (o0a : Nat) (o0s : Nat) (o0r : Nat) (x2 : Int32) (σ : mS) : b_X6_removeAt_19 o0a o0s o0r x2 σ =
  if x2 < (σ.1 (6, o0a, o0s, o0r) 1) * (nI 5) then (
    if x2 < 0 ∨ 40 ≤ x2.toNatClampNeg then none else (
    if x2 - (nI 5) < 0 ∨ 40 ≤ (x2 - (nI 5)).toNatClampNeg then none else (
    let σ1 := st σ (14, o0a, o0s, o0r) ((x2 - (nI 5)).toNatClampNeg) (σ.1 (14, o0a, o0s, o0r) x2.toNatClampNeg);
    b_X6_removeAt_19 o0a o0s o0r (x2 + 1) σ1)))
  else (
    let σ2 := st σ (6, o0a, o0s, o0r) 1 ((σ.1 (6, o0a, o0s, o0r) 1) - (nI 1));
    some (some none, σ2)) := (EvOf_eq mcode _).trans rfl
set_option maxRecDepth 100000 in
set_option maxHeartbeats 4000000 in
theorem q_X6_alikeAtFirst (oa : Nat) (os : Nat) (or : Nat) (p1 : Int32) (σ : mS) : e_X6_alikeAtFirst oa os or p1 σ =
  b_X6_alikeAtFirst_4 oa os or p1 (nI 0) (nI 0) σ := (EvOf_eq mcode _).trans rfl
set_option maxRecDepth 100000 in
set_option maxHeartbeats 4000000 in
theorem q_X6_alikeAtFirst_4 (o0a : Nat) (o0s : Nat) (o0r : Nat) (x1 : Int32) (x2 : Int32) (x3 : Int32) (σ : mS) : b_X6_alikeAtFirst_4 o0a o0s o0r x1 x2 x3 σ =
  if x3 < σ.1 (6, o0a, o0s, o0r) 1 then (
    if x3 < x1 then (
      bdI (e_X6_fieldOf o0a o0s o0r x3 (nI 0) σ) (fun v2 σ1 =>
      bdI (e_X6_fieldOf o0a o0s o0r (nI 0) (nI 0) σ1) (fun v4 σ3 =>
      if v2 = v4 then (
        b_X6_alikeAtFirst_4 o0a o0s o0r x1 (x2 + 1) (x3 + 1) σ3)
      else (
        some (some (some (.inl x2)), σ3)))))
    else (
      some (some (some (.inl x2)), σ)))
  else (
    some (some (some (.inl x2)), σ)) := (EvOf_eq mcode _).trans rfl
set_option maxRecDepth 100000 in
set_option maxHeartbeats 4000000 in
theorem q_X7_addFour (p1 : Int32) (σ : mS) : e_X7_addFour p1 σ =
  if σ.1 (7, 0, 0, 0) 1 < 0 then (
    if nI 0 = 0 ∨ nI 0 = 1 then some (some (some (.inl (nI 0))), σ) else none)
  else (
    if nI 80 < (σ.1 (7, 0, 0, 0) 1) + (nI 4) then (
      if nI 0 = 0 ∨ nI 0 = 1 then some (some (some (.inl (nI 0))), σ) else none)
    else (
      b_X7_addFour_22 p1 (nI 0) σ)) := (EvOf_eq mcode _).trans rfl
set_option maxRecDepth 100000 in
set_option maxHeartbeats 4000000 in
theorem q_X7_addFour_22 (x1 : Int32) (x2 : Int32) (σ : mS) : b_X7_addFour_22 x1 x2 σ =
  if x2 < nI 4 then (
    if (σ.1 (7, 0, 0, 0) 1) + x2 < 0 ∨ 80 ≤ ((σ.1 (7, 0, 0, 0) 1) + x2).toNatClampNeg then none else (
    let σ1 := st σ (23, 0, 0, 0) (((σ.1 (7, 0, 0, 0) 1) + x2).toNatClampNeg) ((iushr x1 ((nI 24) - ((nI 8) * x2))) &&& (nI 255));
    b_X7_addFour_22 x1 (x2 + 1) σ1))
  else (
    let σ2 := st σ (7, 0, 0, 0) 1 ((σ.1 (7, 0, 0, 0) 1) + (nI 4));
    if nI 1 = 0 ∨ nI 1 = 1 then some (some (some (.inl (nI 1))), σ2) else none) := (EvOf_eq mcode _).trans rfl
set_option maxRecDepth 100000 in
set_option maxHeartbeats 4000000 in
theorem q_X7_cutTo (p1 : Int32) (σ : mS) : e_X7_cutTo p1 σ =
  if p1 < 0 then (
    if nI 0 = 0 ∨ nI 0 = 1 then some (some (some (.inl (nI 0))), σ) else none)
  else (
    if σ.1 (7, 0, 0, 0) 1 < p1 then (
      if nI 0 = 0 ∨ nI 0 = 1 then some (some (some (.inl (nI 0))), σ) else none)
    else (
      let σ1 := st σ (7, 0, 0, 0) 1 p1;
      if nI 1 = 0 ∨ nI 1 = 1 then some (some (some (.inl (nI 1))), σ1) else none)) := (EvOf_eq mcode _).trans rfl
set_option maxRecDepth 100000 in
set_option maxHeartbeats 4000000 in
theorem q_X7_at (p1 : Int32) (σ : mS) : e_X7_at p1 σ =
  if p1 < 0 then (
    some (some (some (.inl (-1))), σ))
  else (
    if p1 < σ.1 (7, 0, 0, 0) 1 then (
      if p1 < 0 ∨ 80 ≤ p1.toNatClampNeg then none else (
      some (some (some (.inl (σ.1 (23, 0, 0, 0) p1.toNatClampNeg))), σ)))
    else (
      some (some (some (.inl (-1))), σ))) := (EvOf_eq mcode _).trans rfl
set_option maxRecDepth 100000 in
set_option maxHeartbeats 4000000 in
theorem q_X7_digitAt (p1 : Int32) (p2 : Int32) (p3 : Int32) (σ : mS) : e_X7_digitAt p1 p2 p3 σ =
  bdI (e_X7_at p1 σ) (fun v2 σ1 =>
  if v2 - (nI 48) < p2 then (
    some (some (some (.inl (-1))), σ1))
  else (
    if p3 < v2 - (nI 48) then (
      some (some (some (.inl (-1))), σ1))
    else (
      some (some (some (.inl (v2 - (nI 48)))), σ1)))) := (EvOf_eq mcode _).trans rfl
set_option maxRecDepth 100000 in
set_option maxHeartbeats 4000000 in
theorem q_X7_letterAt (p1 : Int32) (p2 : Int32) (σ : mS) : e_X7_letterAt p1 p2 σ =
  bdI (e_X7_at p1 σ) (fun v2 σ1 =>
  if v2 - (nI 97) < 0 then (
    some (some (some (.inl (-1))), σ1))
  else (
    if v2 - (nI 97) < p2 then (
      some (some (some (.inl (v2 - (nI 97)))), σ1))
    else (
      some (some (some (.inl (-1))), σ1)))) := (EvOf_eq mcode _).trans rfl
set_option maxRecDepth 100000 in
set_option maxHeartbeats 4000000 in
theorem q_X8_become (oa : Nat) (os : Nat) (p1a : Nat) (p1s : Nat) (σ : mS) : e_X8_become oa os p1a p1s σ =
  b_X8_become_2 oa os p1a p1s (nI 0) σ := (EvOf_eq mcode _).trans rfl
set_option maxRecDepth 100000 in
set_option maxHeartbeats 4000000 in
theorem q_X8_become_2 (o0a : Nat) (o0s : Nat) (o1a : Nat) (o1s : Nat) (x2 : Int32) (σ : mS) : b_X8_become_2 o0a o0s o1a o1s x2 σ =
  if x2 < nI 4 then (
    if x2 < 0 ∨ 4 ≤ x2.toNatClampNeg then none else (
    if x2 < 0 ∨ 4 ≤ x2.toNatClampNeg then none else (
    bdV (e_X6_become o0a o0s x2.toNatClampNeg o1a o1s x2.toNatClampNeg σ) (fun σ1 =>
    b_X8_become_2 o0a o0s o1a o1s (x2 + 1) σ1))))
  else (
    bdV (e_X2_become o0a o0s o1a o1s σ) (fun σ2 =>
    bdV (e_X3_become o0a o0s o1a o1s σ2) (fun σ3 =>
    if nI 6 < 0 ∨ nI 0 < 0 ∨ nI 0 < 0 ∨ 6 < (nI 0).toNatClampNeg + (nI 6).toNatClampNeg ∨ 6 < (nI 0).toNatClampNeg + (nI 6).toNatClampNeg then none else (
    let σ4 := stC σ3 (17, o1a, o1s, 0) ((nI 0).toNatClampNeg) (17, o0a, o0s, 0) ((nI 0).toNatClampNeg) ((nI 6).toNatClampNeg);
    if nI 6 < 0 ∨ nI 0 < 0 ∨ nI 0 < 0 ∨ 6 < (nI 0).toNatClampNeg + (nI 6).toNatClampNeg ∨ 6 < (nI 0).toNatClampNeg + (nI 6).toNatClampNeg then none else (
    let σ5 := stC σ4 (18, o1a, o1s, 0) ((nI 0).toNatClampNeg) (18, o0a, o0s, 0) ((nI 0).toNatClampNeg) ((nI 6).toNatClampNeg);
    if nI 6 < 0 ∨ nI 0 < 0 ∨ nI 0 < 0 ∨ 6 < (nI 0).toNatClampNeg + (nI 6).toNatClampNeg ∨ 6 < (nI 0).toNatClampNeg + (nI 6).toNatClampNeg then none else (
    let σ6 := stC σ5 (19, o1a, o1s, 0) ((nI 0).toNatClampNeg) (19, o0a, o0s, 0) ((nI 0).toNatClampNeg) ((nI 6).toNatClampNeg);
    let σ7 := st σ6 (8, o0a, o0s, 0) 6 (σ6.1 (8, o1a, o1s, 0) 6);
    let σ8 := st σ7 (8, o0a, o0s, 0) 7 (σ7.1 (8, o1a, o1s, 0) 7);
    let σ9 := st σ8 (8, o0a, o0s, 0) 8 (σ8.1 (8, o1a, o1s, 0) 8);
    let σ10 := st σ9 (8, o0a, o0s, 0) 9 (σ9.1 (8, o1a, o1s, 0) 9);
    let σ11 := st σ10 (8, o0a, o0s, 0) 10 (σ10.1 (8, o1a, o1s, 0) 10);
    let σ12 := st σ11 (8, o0a, o0s, 0) 11 (σ11.1 (8, o1a, o1s, 0) 11);
    let σ13 := st σ12 (8, o0a, o0s, 0) 12 (σ12.1 (8, o1a, o1s, 0) 12);
    some (some none, σ13))))))) := (EvOf_eq mcode _).trans rfl
set_option maxRecDepth 100000 in
set_option maxHeartbeats 4000000 in
theorem q_X8_isFree (oa : Nat) (os : Nat) (σ : mS) : e_X8_isFree oa os σ =
  if σ.1 (2, oa, os, 0) 0 = 0 then (
    if σ.1 (8, oa, os, 0) 12 = 0 then (
      if nI 1 = 0 ∨ nI 1 = 1 then some (some (some (.inl (nI 1))), σ) else none)
    else (
      if nI 0 = 0 ∨ nI 0 = 1 then some (some (some (.inl (nI 0))), σ) else none))
  else (
    if nI 0 = 0 ∨ nI 0 = 1 then some (some (some (.inl (nI 0))), σ) else none) := (EvOf_eq mcode _).trans rfl
set_option maxRecDepth 100000 in
set_option maxHeartbeats 4000000 in
theorem q_X8_waiting (oa : Nat) (os : Nat) (σ : mS) : e_X8_waiting oa os σ =
  b_X8_waiting_4 oa os (nI 0) (nI 0) σ := (EvOf_eq mcode _).trans rfl
set_option maxRecDepth 100000 in
set_option maxHeartbeats 4000000 in
theorem q_X8_waiting_4 (o0a : Nat) (o0s : Nat) (x1 : Int32) (x2 : Int32) (σ : mS) : b_X8_waiting_4 o0a o0s x1 x2 σ =
  if x2 < nI 4 then (
    if x2 < 0 ∨ 4 ≤ x2.toNatClampNeg then none else (
    b_X8_waiting_4 o0a o0s (x1 + (σ.1 (6, o0a, o0s, x2.toNatClampNeg) 1)) (x2 + 1) σ))
  else (
    some (some (some (.inl x1)), σ)) := (EvOf_eq mcode _).trans rfl
set_option maxRecDepth 100000 in
set_option maxHeartbeats 4000000 in
theorem q_X8_setOwing (oa : Nat) (os : Nat) (p1 : Int32) (p2 : Int32) (σ : mS) : e_X8_setOwing oa os p1 p2 σ =
  let σ1 := st σ (8, oa, os, 0) 11 p1;
  let σ2 := st σ1 (8, oa, os, 0) 12 p2;
  some (some none, σ2) := (EvOf_eq mcode _).trans rfl
set_option maxRecDepth 100000 in
set_option maxHeartbeats 4000000 in
theorem q_X8_pays (oa : Nat) (os : Nat) (p1 : Int32) (p2 : Int32) (σ : mS) : e_X8_pays oa os p1 p2 σ =
  if σ.1 (8, oa, os, 0) 11 = p1 then (
    if σ.1 (8, oa, os, 0) 12 = p2 then (
      bdV (e_X8_setOwing oa os (-1) (nI 0) σ) (fun σ1 =>
      if nI 1 = 0 ∨ nI 1 = 1 then some (some (some (.inl (nI 1))), σ1) else none))
    else (
      if nI 0 = 0 ∨ nI 0 = 1 then some (some (some (.inl (nI 0))), σ) else none))
  else (
    if nI 0 = 0 ∨ nI 0 = 1 then some (some (some (.inl (nI 0))), σ) else none) := (EvOf_eq mcode _).trans rfl
set_option maxRecDepth 100000 in
set_option maxHeartbeats 4000000 in
theorem q_X8_listen (oa : Nat) (os : Nat) (p1 : Int32) (p2 : Int32) (p3 : Int32) (σ : mS) : e_X8_listen oa os p1 p2 p3 σ =
  if σ.1 (8, oa, os, 0) 8 < p3 then (
    let σ1 := st σ (8, oa, os, 0) 8 p3;
    let σ2 := st σ1 (8, oa, os, 0) 9 p1;
    let σ3 := st σ2 (8, oa, os, 0) 10 p2;
    some (some none, σ3))
  else (
    some (some none, σ)) := (EvOf_eq mcode _).trans rfl
set_option maxRecDepth 100000 in
set_option maxHeartbeats 4000000 in
theorem q_J6_bitCount (p0 : Int32) (σ : mS) : e_J6_bitCount p0 σ =
  some (some (some (.inl ((((((((p0 - ((iushr p0 (nI 1)) &&& (nI 1431655765))) &&& (nI 858993459)) + ((iushr (p0 - ((iushr p0 (nI 1)) &&& (nI 1431655765))) (nI 2)) &&& (nI 858993459))) + (iushr (((p0 - ((iushr p0 (nI 1)) &&& (nI 1431655765))) &&& (nI 858993459)) + ((iushr (p0 - ((iushr p0 (nI 1)) &&& (nI 1431655765))) (nI 2)) &&& (nI 858993459))) (nI 4))) &&& (nI 252645135)) + (iushr (((((p0 - ((iushr p0 (nI 1)) &&& (nI 1431655765))) &&& (nI 858993459)) + ((iushr (p0 - ((iushr p0 (nI 1)) &&& (nI 1431655765))) (nI 2)) &&& (nI 858993459))) + (iushr (((p0 - ((iushr p0 (nI 1)) &&& (nI 1431655765))) &&& (nI 858993459)) + ((iushr (p0 - ((iushr p0 (nI 1)) &&& (nI 1431655765))) (nI 2)) &&& (nI 858993459))) (nI 4))) &&& (nI 252645135)) (nI 8))) + (iushr ((((((p0 - ((iushr p0 (nI 1)) &&& (nI 1431655765))) &&& (nI 858993459)) + ((iushr (p0 - ((iushr p0 (nI 1)) &&& (nI 1431655765))) (nI 2)) &&& (nI 858993459))) + (iushr (((p0 - ((iushr p0 (nI 1)) &&& (nI 1431655765))) &&& (nI 858993459)) + ((iushr (p0 - ((iushr p0 (nI 1)) &&& (nI 1431655765))) (nI 2)) &&& (nI 858993459))) (nI 4))) &&& (nI 252645135)) + (iushr (((((p0 - ((iushr p0 (nI 1)) &&& (nI 1431655765))) &&& (nI 858993459)) + ((iushr (p0 - ((iushr p0 (nI 1)) &&& (nI 1431655765))) (nI 2)) &&& (nI 858993459))) + (iushr (((p0 - ((iushr p0 (nI 1)) &&& (nI 1431655765))) &&& (nI 858993459)) + ((iushr (p0 - ((iushr p0 (nI 1)) &&& (nI 1431655765))) (nI 2)) &&& (nI 858993459))) (nI 4))) &&& (nI 252645135)) (nI 8))) (nI 16))) &&& (nI 63)))), σ) := (EvOf_eq mcode _).trans rfl
set_option maxRecDepth 100000 in
set_option maxHeartbeats 4000000 in
theorem q_L_setting (p1 : Int32) (σ : mS) : e_L_setting p1 σ =
  bdX (e_X9_setting p1 σ) (fun v2 σ1 =>
  if nI 0 < 0 ∨ 1 ≤ (nI 0).toNatClampNeg then none else (
  let σ3 := stL σ1 (45, 0, 0, 0) ((nI 0).toNatClampNeg) ((v2).toInt64);
  some (some (some (.inl (nI 0))), σ3)))
  (fun σ1 =>
  some (some (some (.inl (nI 1))), σ1)) := (EvOf_eq mcode _).trans rfl
set_option maxRecDepth 100000 in
set_option maxHeartbeats 4000000 in
theorem q_L_station (p1 : Int32) (p2 : Int32) (σ : mS) : e_L_station p1 p2 σ =
  bdX (e_X9_station p1 p2 σ) (fun v2 σ1 =>
  if nI 0 < 0 ∨ 1 ≤ (nI 0).toNatClampNeg then none else (
  let σ3 := stL σ1 (45, 0, 0, 0) ((nI 0).toNatClampNeg) ((v2).toInt64);
  some (some (some (.inl (nI 0))), σ3)))
  (fun σ1 =>
  some (some (some (.inl (nI 1))), σ1)) := (EvOf_eq mcode _).trans rfl
set_option maxRecDepth 100000 in
set_option maxHeartbeats 4000000 in
theorem q_L_rank (p1 : Int32) (p2 : Int32) (p3 : Int32) (σ : mS) : e_L_rank p1 p2 p3 σ =
  bdX (e_X9_rank p1 p2 p3 σ) (fun v2 σ1 =>
  if nI 0 < 0 ∨ 1 ≤ (nI 0).toNatClampNeg then none else (
  let σ3 := stL σ1 (45, 0, 0, 0) ((nI 0).toNatClampNeg) ((v2).toInt64);
  some (some (some (.inl (nI 0))), σ3)))
  (fun σ1 =>
  some (some (some (.inl (nI 1))), σ1)) := (EvOf_eq mcode _).trans rfl
set_option maxRecDepth 100000 in
set_option maxHeartbeats 4000000 in
theorem q_L_frame (p1 : Int32) (p2 : Int32) (p3 : Int32) (p4 : Int32) (σ : mS) : e_L_frame p1 p2 p3 p4 σ =
  bdX (e_X9_frame p1 p2 p3 p4 σ) (fun v2 σ1 =>
  if nI 0 < 0 ∨ 1 ≤ (nI 0).toNatClampNeg then none else (
  let σ3 := stL σ1 (45, 0, 0, 0) ((nI 0).toNatClampNeg) ((v2).toInt64);
  some (some (some (.inl (nI 0))), σ3)))
  (fun σ1 =>
  some (some (some (.inl (nI 1))), σ1)) := (EvOf_eq mcode _).trans rfl
set_option maxRecDepth 100000 in
set_option maxHeartbeats 4000000 in
theorem q_L_tally (p1 : Int32) (p2 : Int32) (σ : mS) : e_L_tally p1 p2 σ =
  bdX (e_X9_tally p1 p2 σ) (fun v2 σ1 =>
  if nI 0 < 0 ∨ 1 ≤ (nI 0).toNatClampNeg then none else (
  let σ3 := stL σ1 (45, 0, 0, 0) ((nI 0).toNatClampNeg) ((v2).toInt64);
  some (some (some (.inl (nI 0))), σ3)))
  (fun σ1 =>
  some (some (some (.inl (nI 1))), σ1)) := (EvOf_eq mcode _).trans rfl
set_option maxRecDepth 100000 in
set_option maxHeartbeats 4000000 in
theorem q_L_row (p1 : Int32) (σ : mS) : e_L_row p1 σ =
  bdY (e_X9_row p1 σ) (fun v2 σ1 =>
  if nI 0 < 0 ∨ 1 ≤ (nI 0).toNatClampNeg then none else (
  let σ3 := stL σ1 (45, 0, 0, 0) ((nI 0).toNatClampNeg) v2;
  some (some (some (.inl (nI 0))), σ3)))
  (fun σ1 =>
  some (some (some (.inl (nI 1))), σ1)) := (EvOf_eq mcode _).trans rfl
set_option maxRecDepth 100000 in
set_option maxHeartbeats 4000000 in
theorem q_L_law (σ : mS) : e_L_law σ =
  some (none, σ) := (EvOf_eq mcode _).trans rfl
end
