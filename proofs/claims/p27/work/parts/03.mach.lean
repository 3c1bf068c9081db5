/-! THE ABSTRACT MACHINE: values, cells, heaps; what one instruction does; a run by fuel. Index 0 is the script's row, never in the heap. -/
abbrev AV : Type := Int ⊕ (Option Nat ⊕ (Int64 ⊕ (UInt64 ⊕ Unit)))
abbrev vi (z : Int) : AV := Sum.inl z
abbrev vp (a : Option Nat) : AV := Sum.inr (Sum.inl a)
abbrev vr (a : Nat) : AV := Sum.inr (Sum.inl (some a))
abbrev vn : AV := Sum.inr (Sum.inl none)
abbrev vl (x : Int64) : AV := Sum.inr (Sum.inr (Sum.inl x))
abbrev vd (x : UInt64) : AV := Sum.inr (Sum.inr (Sum.inr (Sum.inl x)))
abbrev vu : AV := Sum.inr (Sum.inr (Sum.inr (Sum.inr ())))
abbrev AC : Type := (Nat × List AV) ⊕ (List Int ⊕ (List (Option Nat) ⊕ List Int64))
abbrev oC (c : Nat) (fs : List AV) : AC := Sum.inl (c, fs)
abbrev iC (xs : List Int) : AC := Sum.inr (Sum.inl xs)
abbrev rC (rs : List (Option Nat)) : AC := Sum.inr (Sum.inr (Sum.inl rs))
abbrev lC (xs : List Int64) : AC := Sum.inr (Sum.inr (Sum.inr xs))
abbrev AH : Type := Nat → Option AC
abbrev Mu : Type := Nat × (Nat × Nat)
abbrev Out : Type := Option AV ⊕ Nat
abbrev SR : Type := (Nat × (List AV × (List AV × (Mu × AH)))) ⊕ ((Out × (Mu × AH)) ⊕ (Nat × (List AV × (Nat × (List AV × List AV)))))
def wrp (x : Int) : Int := (x + 2147483648) % 4294967296 - 2147483648
def cat2 (v : AV) : Bool := match v with
  | .inr (.inr (.inl _)) => true
  | .inr (.inr (.inr (.inl _))) => true
  | _ => false
def isU (v : AV) : Bool := match v with
  | .inr (.inr (.inr (.inr _))) => true
  | _ => false
def aup (f : AH) (a : Nat) (c : AC) : AH := fun b => if b = a then some c else f b
-- what is in a heap
def gf (f : AH) (a ci k : Nat) : Option AV := match f a with
  | some (.inl (c, fs)) => if c = ci then fs[k]? else none
  | _ => none
def pf (f : AH) (a ci k : Nat) (v : AV) : Option AH := match f a with
  | some (.inl (c, fs)) => if c = ci ∧ k < fs.length then some (aup f a (oC c (fs.set k v))) else none
  | _ => none
def gi (f : AH) (a : Nat) (i : Int) : Option AV := match f a with
  | some (.inr (.inl xs)) => if 0 ≤ i ∧ i < xs.length then some (vi (xs.getD i.toNat 0)) else none
  | _ => none
def pi (f : AH) (a : Nat) (i x : Int) : Option AH := match f a with
  | some (.inr (.inl xs)) => if 0 ≤ i ∧ i < xs.length then some (aup f a (iC (xs.set i.toNat x))) else none
  | _ => none
def gq (f : AH) (a : Nat) (i : Int) : Option AV := match f a with
  | some (.inr (.inr (.inl rs))) => if 0 ≤ i ∧ i < rs.length then some (vp (rs.getD i.toNat none)) else none
  | _ => none
def isO (f : AH) (b c : Nat) : Bool := match f b with
  | some (.inl (k, _)) => Nat.beq k c
  | _ => false
def pq (f : AH) (a : Nat) (i : Int) (b : Nat) : Option AH := match f a with
  | some (.inr (.inr (.inl rs))) => if 0 ≤ i ∧ i < rs.length ∧ isO f b 1 = true then some (aup f a (rC (rs.set i.toNat (some b)))) else none
  | _ => none
def gl (f : AH) (a : Nat) (i : Int) : Option AV := match f a with
  | some (.inr (.inr (.inr xs))) => if 0 ≤ i ∧ i < xs.length then some (vl (xs.getD i.toNat 0)) else none
  | _ => none
def pl (f : AH) (a : Nat) (i : Int) (x : Int64) : Option AH := match f a with
  | some (.inr (.inr (.inr xs))) => if 0 ≤ i ∧ i < xs.length then some (aup f a (lC (xs.set i.toNat x))) else none
  | _ => none
def an (f : AH) (a : Nat) : Option Nat := match f a with
  | some (.inr (.inl xs)) => some xs.length
  | some (.inr (.inr (.inl rs))) => some rs.length
  | _ => none
/-- the first n of one row over the first n of another -/
def cp (f : AH) (a b : Nat) (n : Int) : Option AH := match f a, f b with
  | some (.inr (.inl xs)), some (.inr (.inl ys)) => if 0 ≤ n ∧ n ≤ xs.length ∧ n ≤ ys.length then some (aup f b (iC (xs.take n.toNat ++ ys.drop n.toNat))) else none
  | _, _ => none
/-- what the script's row holds (the law's own reading) -/
def scr (y : Nat) : Bool := Nat.beq y 0 || Nat.beq y 73
def sG (xs : List Int) (y : Nat) (i : Int) : Option AV := if scr y = true ∧ 0 ≤ i ∧ i < xs.length then some (vi (xs.getD i.toNat 0)) else none
/-- a value fits a field's type -/
def fitA (ty : FieldType) (v : AV) : Bool := match ty, v with
  | .int, .inl _ => true
  | .long, .inr (.inr (.inl _)) => true
  | .object _, .inr (.inl _) => true
  | .array _, .inr (.inl _) => true
  | _, _ => false
def dfl (ty : FieldType) : AV := match ty with
  | .int => vi 0
  | .long => vl 0
  | _ => vn
def dfs (c : Nat) : List AV := (List.range (cF c)).map (fun k => dfl (cY c k))
def nx (pc : Nat) (L st : List AV) (μ : Mu) (f : AH) : Option SR := some (.inl (pc, (L, (st, (μ, f)))))
def ov (o : Option AV) (pc : Nat) (L st : List AV) (μ : Mu) (f : AH) : Option SR := match o with
  | some v => nx pc L (v :: st) μ f
  | none => none
def oh (o : Option AH) (pc : Nat) (L st : List AV) (μ : Mu) : Option SR := match o with
  | some f => nx pc L st μ f
  | none => none
def dn (r : Out) (μ : Mu) (f : AH) : Option SR := some (.inr (.inl (r, (μ, f))))
def tg (pc : Nat) (off : Int) (L st : List AV) (μ : Mu) (f : AH) : Option SR := if 0 ≤ (pc : Int) + off then nx ((pc : Int) + off).toNat L st μ f else none
def br (b : Prop) [Decidable b] (pc : Nat) (off : Int) (L st : List AV) (μ : Mu) (f : AH) : Option SR := if 0 ≤ (pc : Int) + off then (if b then nx ((pc : Int) + off).toNat L st μ f else nx (pc + 3) L st μ f) else none
def cmpA (c : Jvm.ClassFile.Cond) (pc : Nat) (off : Int) (x y : Int) (L st : List AV) (μ : Mu) (f : AH) : Option SR := match c with
  | .eq => br (x = y) pc off L st μ f
  | .ne => br (x ≠ y) pc off L st μ f
  | .lt => br (x < y) pc off L st μ f
  | .ge => br (y ≤ x) pc off L st μ f
  | .gt => br (y < x) pc off L st μ f
  | .le => br (x ≤ y) pc off L st μ f
def stI (L : List AV) (i : Nat) (v : AV) : Option (List AV) := if i < L.length ∧ (i = 0 ∨ cat2 (L.getD (i - 1) vu) = false) then some (L.set i v) else none
def stL (L : List AV) (i : Nat) (v : AV) : Option (List AV) := if i + 1 < L.length ∧ (i = 0 ∨ cat2 (L.getD (i - 1) vu) = false) then some ((L.set i v).set (i + 1) vu) else none
def ol (o : Option (List AV)) (pc : Nat) (st : List AV) (μ : Mu) (f : AH) : Option SR := match o with
  | some L => nx pc L st μ f
  | none => none
def i32 (z : Int) : Int32 := Int32.ofInt z
def lay (as : List AV) : List AV := as.flatMap (fun v => if cat2 v then [v, vu] else [v])
def ini (y : Nat) (as : List AV) : List AV := lay as ++ List.replicate (mL y - (lay as).length) vu
def takeArgs (n : Nat) (st : List AV) : Option (List AV × List AV) := if n ≤ st.length then some ((st.take n).reverse, st.drop n) else none
def okArg (y : Nat) (as : List AV) : Bool := Nat.ble (lay as).length (mL y)
def ld1 (o : Option AV) (k : Nat) (pc : Nat) (L st : List AV) (μ : Mu) (f : AH) : Option SR := match o with
  | some v => match v, k with
    | .inl x, 0 => nx pc L (vi x :: st) μ f
    | .inr (.inl (some a)), 1 => nx pc L (vr a :: st) μ f
    | .inr (.inr (.inl x)), 2 => nx pc L (vl x :: st) μ f
    | .inr (.inr (.inr (.inl x))), 3 => nx pc L (vd x :: st) μ f
    | _, _ => none
  | none => none
def st1 (k i : Nat) (pc : Nat) (L st : List AV) (μ : Mu) (f : AH) : Option SR := match st with
  | v :: r => match v, k with
    | .inl x, 0 => ol (stI L i (vi x)) pc r μ f
    | .inr (.inl (some a)), 1 => ol (stI L i (vr a)) pc r μ f
    | .inr (.inr (.inl x)), 2 => ol (stL L i (vl x)) pc r μ f
    | .inr (.inr (.inr (.inl x))), 3 => ol (stL L i (vd x)) pc r μ f
    | _, _ => none
  | _ => none
def nn64 (r : UInt64) : Bool := decide (r &&& 0x7fffffffffffffff ≤ 0x7ff0000000000000)
def ii2 (g : Int → Int → Option Int) (pc : Nat) (L st : List AV) (μ : Mu) (f : AH) : Option SR := match st with
  | .inl y :: .inl x :: r => match g x y with
    | some z => nx pc L (vi z :: r) μ f
    | none => none
  | _ => none
def ll2 (g : Int64 → Int64 → Int64) (pc : Nat) (L st : List AV) (μ : Mu) (f : AH) : Option SR := match st with
  | .inr (.inr (.inl y)) :: .inr (.inr (.inl x)) :: r => nx pc L (vl (g x y) :: r) μ f
  | _ => none
def dd2 (g : UInt64 → UInt64 → UInt64) (pc : Nat) (L st : List AV) (μ : Mu) (f : AH) : Option SR := match st with
  | .inr (.inr (.inr (.inl y))) :: .inr (.inr (.inr (.inl x))) :: r => if nn64 (g x y) = true then nx pc L (vd (g x y) :: r) μ f else none
  | _ => none
def okRank (y y' : Nat) : Bool := Nat.ble (rF y' + 1) (rF y) && Nat.ble (8 + (mL y' + 11) + rL y') (rL y)
def okSys (y : Nat) (r : List AV) : Bool := Nat.ble 1 (rF y) && (Nat.ble 70 (rL y) && Nat.ble r.length 4)
def callA (y y' n pc : Nat) (L st : List AV) : Option SR := match takeArgs n st with
  | some (as, r) => if okArg y' as = true ∧ okRank y y' = true ∧ r.length ≤ 4 then some (.inr (.inr (y', (as, (pc, (L, r)))))) else none
  | none => none
def istep (xs : List Int) (y pc len : Nat) (i : Instr) (L st : List AV) (μ : Mu) (f : AH) : Option SR :=
  match i with
  | .aload_n k => if len = 1 then ld1 (L[k.val]?) 1 (pc + 1) L st μ f else none
  | .aload k => if len = 2 then ld1 (L[k]?) 1 (pc + 2) L st μ f else none
  | .iload_n k => if len = 1 then ld1 (L[k.val]?) 0 (pc + 1) L st μ f else none
  | .iload k => if len = 2 then ld1 (L[k]?) 0 (pc + 2) L st μ f else none
  | .lload_n k => if len = 1 then ld1 (L[k.val]?) 2 (pc + 1) L st μ f else none
  | .lload k => if len = 2 then ld1 (L[k]?) 2 (pc + 2) L st μ f else none
  | .dload_n k => if len = 1 then ld1 (L[k.val]?) 3 (pc + 1) L st μ f else none
  | .dload k => if len = 2 then ld1 (L[k]?) 3 (pc + 2) L st μ f else none
  | .astore_n k => if len = 1 then st1 1 k.val (pc + 1) L st μ f else none
  | .astore k => if len = 2 then st1 1 k (pc + 2) L st μ f else none
  | .istore_n k => if len = 1 then st1 0 k.val (pc + 1) L st μ f else none
  | .istore k => if len = 2 then st1 0 k (pc + 2) L st μ f else none
  | .lstore_n k => if len = 1 then st1 2 k.val (pc + 1) L st μ f else none
  | .lstore k => if len = 2 then st1 2 k (pc + 2) L st μ f else none
  | .dstore_n k => if len = 1 then st1 3 k.val (pc + 1) L st μ f else none
  | .dstore k => if len = 2 then st1 3 k (pc + 2) L st μ f else none
  | .iconst n => if len = 1 then nx (pc + 1) L (vi (wrp n) :: st) μ f else none
  | .bipush n => if len = 2 then nx (pc + 2) L (vi ((Int8.ofInt n).toInt32.toInt) :: st) μ f else none
  | .sipush n => if len = 3 then nx (pc + 3) L (vi ((Int16.ofInt n).toInt32.toInt) :: st) μ f else none
  | .lconst n => if len = 1 then nx (pc + 1) L (vl (Int64.ofNat n.val) :: st) μ f else none
  | .dconst n => if len = 1 then nx (pc + 1) L (vd (if n = 0 then FP.dconst0 else FP.dconst1) :: st) μ f else none
  | .ldc2_w k => if len = 3 then (match lk kTab (mO y) k with
    | some (.inl x, _) => nx (pc + 3) L (vl x :: st) μ f
    | some (.inr x, _) => nx (pc + 3) L (vd x :: st) μ f
    | none => none) else none
  | .ldc k => if len = 2 then (match lk jTab (mO y) k with
    | some (z, _) => nx (pc + 2) L (vi z :: st) μ f
    | none => none) else none
  | .iadd => if len = 1 then ii2 (fun x y => some (wrp (x + y))) (pc + 1) L st μ f else none
  | .isub => if len = 1 then ii2 (fun x y => some (wrp (x - y))) (pc + 1) L st μ f else none
  | .imul => if len = 1 then ii2 (fun x y => some (wrp (x * y))) (pc + 1) L st μ f else none
  | .idiv => if len = 1 then ii2 (fun x y => if y = 0 then none else some ((i32 x / i32 y).toInt)) (pc + 1) L st μ f else none
  | .irem => if len = 1 then ii2 (fun x y => if y = 0 then none else some ((i32 x - i32 x / i32 y * i32 y).toInt)) (pc + 1) L st μ f else none
  | .iand => if len = 1 then ii2 (fun x y => some ((i32 x &&& i32 y).toInt)) (pc + 1) L st μ f else none
  | .ior => if len = 1 then ii2 (fun x y => some ((i32 x ||| i32 y).toInt)) (pc + 1) L st μ f else none
  | .ixor => if len = 1 then ii2 (fun x y => some ((i32 x ^^^ i32 y).toInt)) (pc + 1) L st μ f else none
  | .ishl => if len = 1 then ii2 (fun x y => some ((i32 x <<< (i32 y &&& 31)).toInt)) (pc + 1) L st μ f else none
  | .ishr => if len = 1 then ii2 (fun x y => some ((i32 x >>> (i32 y &&& 31)).toInt)) (pc + 1) L st μ f else none
  | .ineg => if len = 1 then (match st with
    | .inl x :: r => nx (pc + 1) L (vi (wrp (-x)) :: r) μ f
    | _ => none) else none
  | .i2l => if len = 1 then (match st with
    | .inl x :: r => nx (pc + 1) L (vl (i32 x).toInt64 :: r) μ f
    | _ => none) else none
  | .i2d => if len = 1 then (match st with
    | .inl x :: r => nx (pc + 1) L (vd (FP.i2d (i32 x)) :: r) μ f
    | _ => none) else none
  | .d2l => if len = 1 then (match st with
    | .inr (.inr (.inr (.inl x))) :: r => nx (pc + 1) L (vl (FP.d2l x) :: r) μ f
    | _ => none) else none
  | .ladd => if len = 1 then ll2 (fun x y => x + y) (pc + 1) L st μ f else none
  | .lsub => if len = 1 then ll2 (fun x y => x - y) (pc + 1) L st μ f else none
  | .lmul => if len = 1 then ll2 (fun x y => x * y) (pc + 1) L st μ f else none
  | .lshl => if len = 1 then (match st with
    | .inl y :: .inr (.inr (.inl x)) :: r => nx (pc + 1) L (vl (x <<< ((i32 y).toInt64 &&& 63)) :: r) μ f
    | _ => none) else none
  | .dmul => if len = 1 then dd2 FP.dmul (pc + 1) L st μ f else none
  | .ddiv => if len = 1 then dd2 FP.ddiv (pc + 1) L st μ f else none
  | .dsub => if len = 1 then dd2 FP.dsub (pc + 1) L st μ f else none
  | .lcmp => if len = 1 then (match st with
    | .inr (.inr (.inl y)) :: .inr (.inr (.inl x)) :: r => nx (pc + 1) L (vi (lg_cmp x y).toInt :: r) μ f
    | _ => none) else none
  | .dcmp op => if len = 1 then (match st with
    | .inr (.inr (.inr (.inl y))) :: .inr (.inr (.inr (.inl x))) :: r => nx (pc + 1) L (vi (Op.cmpValue (FP.dcmp x y) op).toInt :: r) μ f
    | _ => none) else none
  | .iinc k n => if len = 3 then (match L[k]? with
    | some (.inl x) => nx (pc + 3) (L.set k (vi (wrp (x + n)))) st μ f
    | _ => none) else none
  | .dup => if len = 1 then (match st with
    | v :: r => if cat2 v = false ∧ isU v = false then nx (pc + 1) L (v :: v :: r) μ f else none
    | _ => none) else none
  | .dup2 => if len = 1 then (match st with
    | v :: w :: r => if cat2 v = false ∧ isU v = false ∧ cat2 w = false ∧ isU w = false then nx (pc + 1) L (v :: w :: v :: w :: r) μ f else none
    | _ => none) else none
  | .pop => if len = 1 then (match st with
    | v :: r => if cat2 v = false ∧ isU v = false then nx (pc + 1) L r μ f else none
    | _ => none) else none
  | .goto off => if len = 3 then tg pc off L st μ f else none
  | .ifCond c off => if len = 3 then (match st with
    | .inl x :: r => cmpA c pc off x 0 L r μ f
    | _ => none) else none
  | .if_icmp c off => if len = 3 then (match st with
    | .inl y :: .inl x :: r => cmpA c pc off x y L r μ f
    | _ => none) else none
  | .ifnull off => if len = 3 then (match st with
    | .inr (.inl (some _)) :: r => nx (pc + 3) L r μ f
    | .inr (.inl none) :: r => tg pc off L r μ f
    | _ => none) else none
  | .tableswitch d lo hi offs => (match st with
    | .inl x :: r => if x < lo ∨ hi < x then tg pc d L r μ f else (match offs[(x - lo).toNat]? with
      | some off => tg pc off L r μ f
      | none => none)
    | _ => none)
  | .getfield k => if len = 3 then (match st, lk fTab (mO y) k with
    | .inr (.inl (some a)) :: r, some (ci, (kk, _)) => ov (gf f a ci kk) (pc + 3) L r μ f
    | _, _ => none) else none
  | .putfield k => if len = 3 then (match st, lk fTab (mO y) k with
    | v :: .inr (.inl (some a)) :: r, some (ci, (kk, _)) => if fitA (cY ci kk) v = true ∧ ((cT ci kk).2.2.2 = false ∨ ((mN y).name = "<init>" ∧ mO y = ci)) then oh (pf f a ci kk v) (pc + 3) L r μ else none
    | _, _ => none) else none
  | .iaload => if len = 1 then (match st with
    | .inl i :: .inr (.inl (some a)) :: r => ov (if a = 0 then sG xs y i else gi f a i) (pc + 1) L r μ f
    | _ => none) else none
  | .iastore => if len = 1 then (match st with
    | .inl x :: .inl i :: .inr (.inl (some a)) :: r => oh (pi f a i x) (pc + 1) L r μ
    | _ => none) else none
  | .aaload => if len = 1 then (match st with
    | .inl i :: .inr (.inl (some a)) :: r => ov (gq f a i) (pc + 1) L r μ f
    | _ => none) else none
  | .aastore => if len = 1 then (match st with
    | .inr (.inl (some b)) :: .inl i :: .inr (.inl (some a)) :: r => oh (pq f a i b) (pc + 1) L r μ
    | _ => none) else none
  | .arraylength => if len = 1 then (match st with
    | .inr (.inl (some a)) :: r => if a = 0 then (if scr y = true then nx (pc + 1) L (vi xs.length :: r) μ f else none) else (match an f a with
      | some n => nx (pc + 1) L (vi n :: r) μ f
      | none => none)
    | _ => none) else none
  | .newarray t => if len = 2 then (match st with
    | .inl n :: r => if 0 ≤ n ∧ n ≤ 100000 then (match t with
      | .int => nx (pc + 2) L (vr (μ.1 + 1) :: r) (μ.1 + 1, (μ.2.1 + 1, μ.2.2 + n.toNat)) (aup f (μ.1 + 1) (iC (List.replicate n.toNat 0)))
      | _ => none) else none
    | _ => none) else none
  | .anewarray k => if len = 3 then (match st, lk cTab (mO y) k with
    | .inl n :: r, some (1, _) => if 0 ≤ n ∧ n ≤ 100000 then nx (pc + 3) L (vr (μ.1 + 1) :: r) (μ.1 + 1, (μ.2.1 + 1, μ.2.2 + n.toNat)) (aup f (μ.1 + 1) (rC (List.replicate n.toNat none))) else none
    | _, _ => none) else none
  | .new k => if len = 3 then (match lk xTab y pc with
    | some (E, _) => if st = [] ∧ 6 ≤ rF y ∧ 100 ≤ rL y then dn (.inr E) (μ.1, (μ.2.1 + 1, μ.2.2 + 6)) f else none
    | none => (match lk cTab (mO y) k with
      | some (ci, _) => nx (pc + 3) L (vr (μ.1 + 1) :: st) (μ.1 + 1, (μ.2.1 + 1, μ.2.2 + cF ci)) (aup f (μ.1 + 1) (oC ci (dfs ci)))
      | none => none)) else none
  | .invokevirtual k => if len = 3 then (match lk vTab (mO y) k with
    | some (y', _) => (match callA y y' (mA y' + 1) (pc + 3) L st with
      | some (.inr (.inr (y', (.inr (.inl (some a)) :: as, q)))) => if isO f a (mO y') = true ∧ a ≠ 0 then some (.inr (.inr (y', (vr a :: as, q)))) else none
      | _ => none)
    | none => none) else none
  | .invokestatic k => if len = 3 then (match lk sTab (mO y) k with
    | some (y', _) => callA y y' (mA y') (pc + 3) L st
    | none => (match lk oTab (mO y) k, st with
      | some (1, _), .inl w :: .inl x :: r => if okSys y r = true then nx (pc + 3) L (vi (if x ≤ w then x else w) :: r) μ f else none
      | some (2, _), .inl n :: .inl 0 :: .inr (.inl (some b)) :: .inl 0 :: .inr (.inl (some a)) :: r => if okSys y r = true then oh (cp f a b n) (pc + 3) L r μ else none
      | _, _ => none)) else none
  | .invokespecial k => if len = 3 then (match lk pTab (mO y) k with
    | some (y', _) => (match callA y y' (mA y' + 1) (pc + 3) L st with
      | some (.inr (.inr (y', (.inr (.inl (some a)) :: as, q)))) => if isO f a (mO y') = true ∧ a ≠ 0 then some (.inr (.inr (y', (vr a :: as, q)))) else none
      | _ => none)
    | none => (match lk oTab (mO y) k, st with
      | some (0, _), .inr (.inl (some a)) :: r => if okSys y r = true then nx (pc + 3) L r μ f else none
      | _, _ => none)) else none
  | .ireturn => if len = 1 then (match st with
    | [.inl x] => (match mR y with
      | some .int => dn (.inl (some (vi x))) μ f
      | some .boolean => if x = 0 ∨ x = 1 then dn (.inl (some (vi x))) μ f else none
      | _ => none)
    | _ => none) else none
  | .lreturn => if len = 1 then (match st with
    | [.inr (.inr (.inl x))] => if mR y = some .long then dn (.inl (some (vl x))) μ f else none
    | _ => none) else none
  | .dreturn => if len = 1 then (match st with
    | [.inr (.inr (.inr (.inl x)))] => if mR y = some .double ∧ nn64 x = true then dn (.inl (some (vd x))) μ f else none
    | _ => none) else none
  | .return_ => if len = 1 then (match st with
    | [] => if mR y = none then dn (.inl none) μ f else none
    | _ => none) else none
  | _ => none
/-- the rows of a method's table hold this pc -/
def hcov (y pc : Nat) : Bool := (mH y).all (fun q => Nat.ble q.1 pc && Nat.blt pc q.2.1)
/-- a run of method y from pc, by fuel -/
def exec (xs : List Int) : Nat → Nat → Nat → List AV → List AV → Mu → AH → Option (Out × (Mu × AH))
  | 0, _, _, _, _, _, _ => none
  | k + 1, y, pc, L, st, μ, f => match decode (mB y) pc with
    | .error _ => none
    | .ok (i, len) => match istep xs y pc len i L st μ f with
      | none => none
      | some (.inl (pc', (L', (st', (μ', f'))))) => exec xs k y pc' L' st' μ' f'
      | some (.inr (.inl r)) => some r
      | some (.inr (.inr (y', (as, (pc', (L', st')))))) => match exec xs k y' 0 (ini y' as) [] μ f with
        | none => none
        | some (.inl none, (μ', f')) => exec xs k y pc' L' st' μ' f'
        | some (.inl (some v), (μ', f')) => exec xs k y pc' L' (v :: st') μ' f'
        | some (.inr E, (μ', f')) => match lk hTab y E with
          | none => if (mH y).isEmpty then some (.inr E, (μ', f')) else none
          | some (_, (_, (h, (j, _)))) => if hcov y (pc' - 3) = true then exec xs k y h (List.replicate (mL y) vu) [] μ' f' else none
