/-! ===== one instruction of the abstract machine: what must hold before it, by what must hold behind it ===== -/
def amCmp : Jvm.ClassFile.Cond → Int → Int → Prop
  | .eq, x, y => x = y
  | .ne, x, y => x ≠ y
  | .lt, x, y => x < y
  | .ge, x, y => y ≤ x
  | .gt, x, y => y < x
  | .le, x, y => x ≤ y
abbrev amJ (pc : Nat) (off : Int) : Nat := ((pc : Int) + off).toNat
def amSw (pc : Nat) (J : Nat → Prop) (x : Int) : Int → List Int → Prop
  | _, [] => True
  | lo, off :: l => (x = lo → J (amJ pc off)) ∧ amSw pc J x (lo + 1) l
def amPop : Nat → List amV → Option (List amV × List amV)
  | 0, sk => some ([], sk)
  | n + 1, v :: sk => match amPop n sk with
    | some (as, r) => some (as ++ [v], r)
    | none => none
  | _ + 1, [] => none
def amAC : Nat → Nat
  | 22 => 7 | 23 => 3 | _ => 8
abbrev amK1 : Type := List (Option amV) → List amV → amH → Prop
abbrev amJ1 : Type := Nat → List (Option amV) → List amV → amH → Prop
def amLdI (K : amV → Prop) : Option amV → Prop
  | some (Sum.inl x) => K (aI x)
  | _ => False
def amLdR (K : amV → Prop) : Option amV → Prop
  | some (Sum.inr (Sum.inl (some a))) => K (aR (some a))
  | some (Sum.inr (Sum.inr (Sum.inr (Sum.inr a)))) => K (aO a)
  | _ => False
def amLdL (K : amV → Prop) : Option amV → Prop
  | some (Sum.inr (Sum.inr (Sum.inl x))) => K (aL x)
  | _ => False
def amLdD (K : amV → Prop) : Option amV → Prop
  | some (Sum.inr (Sum.inr (Sum.inr (Sum.inl x)))) => K (aD x)
  | _ => False
def amStI (K : amV → List amV → Prop) : List amV → Prop
  | Sum.inl x :: r => K (aI x) r
  | _ => False
def amStR (K : amV → List amV → Prop) : List amV → Prop
  | Sum.inr (Sum.inl (some a)) :: r => K (aR (some a)) r
  | Sum.inr (Sum.inr (Sum.inr (Sum.inr a))) :: r => K (aO a) r
  | _ => False
def amStL (K : amV → List amV → Prop) : List amV → Prop
  | Sum.inr (Sum.inr (Sum.inl x)) :: r => K (aL x) r
  | _ => False
def amStD (K : amV → List amV → Prop) : List amV → Prop
  | Sum.inr (Sum.inr (Sum.inr (Sum.inl x))) :: r => K (aD x) r
  | _ => False
def am2I (K : Int → Int → List amV → Prop) : List amV → Prop
  | Sum.inl y :: Sum.inl x :: r => K x y r
  | _ => False
def am1I (K : Int → List amV → Prop) : List amV → Prop
  | Sum.inl x :: r => K x r
  | _ => False
def am2L (K : Int64 → Int64 → List amV → Prop) : List amV → Prop
  | Sum.inr (Sum.inr (Sum.inl y)) :: Sum.inr (Sum.inr (Sum.inl x)) :: r => K x y r
  | _ => False
def am2D (K : UInt64 → UInt64 → List amV → Prop) : List amV → Prop
  | Sum.inr (Sum.inr (Sum.inr (Sum.inl y))) :: Sum.inr (Sum.inr (Sum.inr (Sum.inl x))) :: r => K x y r
  | _ => False
def amGetF (t : Nat) (ci k : Nat) (h : amH) (K : List amV → Prop) : List amV → Prop
  | Sum.inr (Sum.inl (some a)) :: r => (hS h)[a]? = some (ci, 0) ∧ (match t with
    | 0 => K (aI (hI h a k) :: r)
    | 1 => ∃ b : Nat, hR h a k = some b ∧ K (aR (some b) :: r)
    | _ => K (aL (hL h a k) :: r))
  | _ => False
def amPutF (t : Nat) (ci k : Nat) (h : amH) (K : List amV → amH → Prop) : List amV → Prop
  | Sum.inl x :: Sum.inr (Sum.inl (some a)) :: r => (match t with
    | 0 => (hS h)[a]? = some (ci, 0) ∧ K r (hPutI h a k x)
    | _ => False)
  | Sum.inr (Sum.inl v) :: Sum.inr (Sum.inl (some a)) :: r => (match t with
    | 1 => (hS h)[a]? = some (ci, 0) ∧ K r (hPutR h a k v)
    | _ => False)
  | Sum.inr (Sum.inr (Sum.inl x)) :: Sum.inr (Sum.inl (some a)) :: r => (match t with
    | 2 => (hS h)[a]? = some (ci, 0) ∧ K r (hPutL h a k x)
    | _ => False)
  | _ => False
def amLen (G : amG) (h : amH) (K : List amV → Prop) : List amV → Prop
  | Sum.inr (Sum.inl (some a)) :: r => ∃ kd n : Nat, (hS h)[a]? = some (kd, n) ∧ (20 ≤ kd ∧ kd ≤ 24 ∧ n ≤ 2147483647) ∧ K (aI n :: r)
  | Sum.inr (Sum.inr (Sum.inr (Sum.inr a))) :: r => a = gb G ∧ K (aI (gn G) :: r)
  | _ => False
def amIald (G : amG) (h : amH) (K : List amV → Prop) : List amV → Prop
  | Sum.inl i :: Sum.inr (Sum.inl (some a)) :: r => ∃ n : Nat, (hS h)[a]? = some (20, n) ∧ (0 ≤ i ∧ i < n) ∧ K (aI (hI h a i.toNat) :: r)
  | Sum.inl i :: Sum.inr (Sum.inr (Sum.inr (Sum.inr a))) :: r => a = gb G ∧ (0 ≤ i ∧ i < gn G) ∧ K (aI (gx G i.toNat).toInt :: r)
  | _ => False
def amIast (h : amH) (K : List amV → amH → Prop) : List amV → Prop
  | Sum.inl x :: Sum.inl i :: Sum.inr (Sum.inl (some a)) :: r => ∃ n : Nat, (hS h)[a]? = some (20, n) ∧ (0 ≤ i ∧ i < n) ∧ K r (hPutI h a i.toNat x)
  | _ => False
def amLald (h : amH) (K : List amV → Prop) : List amV → Prop
  | Sum.inl i :: Sum.inr (Sum.inl (some a)) :: r => ∃ n : Nat, (hS h)[a]? = some (21, n) ∧ (0 ≤ i ∧ i < n) ∧ K (aL (hL h a i.toNat) :: r)
  | _ => False
def amLast (h : amH) (K : List amV → amH → Prop) : List amV → Prop
  | Sum.inr (Sum.inr (Sum.inl x)) :: Sum.inl i :: Sum.inr (Sum.inl (some a)) :: r => ∃ n : Nat, (hS h)[a]? = some (21, n) ∧ (0 ≤ i ∧ i < n) ∧ K r (hPutL h a i.toNat x)
  | _ => False
def amAald (h : amH) (K : List amV → Prop) : List amV → Prop
  | Sum.inl i :: Sum.inr (Sum.inl (some a)) :: r => ∃ kd n : Nat, (hS h)[a]? = some (kd, n) ∧ (22 ≤ kd ∧ kd ≤ 24) ∧ (0 ≤ i ∧ i < n) ∧ ∃ b : Nat, hR h a i.toNat = some b ∧ K (aR (some b) :: r)
  | _ => False
def amAast (h : amH) (K : List amV → amH → Prop) : List amV → Prop
  | Sum.inr (Sum.inl (some v)) :: Sum.inl i :: Sum.inr (Sum.inl (some a)) :: r => ∃ kd n : Nat, (hS h)[a]? = some (kd, n) ∧ (22 ≤ kd ∧ kd ≤ 24) ∧ (hS h)[v]? = some (amAC kd, 0) ∧ (0 ≤ i ∧ i < n) ∧ K r (hPutR h a i.toNat (some v))
  | _ => False
def amNewA (kd : Nat) (h : amH) (K : List amV → amH → Prop) : List amV → Prop
  | Sum.inl n :: r => (0 ≤ n ∧ n ≤ 100000 ∧ 1 ≤ hC h ∧ n.toNat ≤ hT h ∧ hX h = 0) ∧ K (aR (some (hS h).length) :: r) (hNew h (kd, n.toNat) n.toNat)
  | _ => False
def amDup (K : List amV → Prop) : List amV → Prop
  | v :: r => amCat v = 1 ∧ K (v :: v :: r)
  | _ => False
def amDup2 (K : List amV → Prop) : List amV → Prop
  | v :: w :: r => (amCat v = 1 ∧ amCat w = 1) ∧ K (v :: w :: v :: w :: r)
  | _ => False
def amDupX2 (K : List amV → Prop) : List amV → Prop
  | v :: w :: u :: r => (amCat v = 1 ∧ amCat w = 1 ∧ amCat u = 1) ∧ K (v :: w :: u :: v :: r)
  | _ => False
def amPop1 (K : List amV → Prop) : List amV → Prop
  | v :: r => amCat v = 1 ∧ K r
  | _ => False
/-- the receiver of a virtual call is an object of the class ci -/
def amRecv (h : amH) (ci : Nat) : List amV → Prop
  | Sum.inr (Sum.inl (some a)) :: _ => (hS h)[a]? = some (ci, 0)
  | _ => False
/-- a receiver that is a cell of the world -/
def amSelf : List amV → Prop
  | Sum.inr (Sum.inl (some _)) :: _ => True
  | _ => False
def amCatch (j pc : Nat) : List (Nat × Nat × Nat × Nat) → List Nat → Option Nat
  | (a, b, t, _) :: l, k :: ks => if a ≤ pc ∧ pc < b ∧ k = j then some t else amCatch j pc l ks
  | _, _ => none
/-- what the classes of a method's table are, by their numbers: the law's wrappers name them in this order -/
def amHk (S : amS) : List Nat := match (sh S).length with
  | 0 => []
  | _ => []
/-- what lies below a call's arguments is small -/
def amW8 (r : List amV) : Prop := (r.map amCat).sum ≤ 8
/-- behind a call: it came back, or it threw -/
def amAf (M : amM) (Q : amR → amH → Prop) (S : amS) (pc : Nat) (K : amK1) (J : amJ1) (ls : List (Option amV)) (r : List amV) (h : amH) : amR → amH → Prop := fun o h1 => match o with
  | Sum.inl none => sr S = none ∧ K ls r (hGive h1 (hC h - sc S) (hT h - st S))
  | Sum.inl (some v) => sr S ≠ none ∧ K ls (v :: r) (hGive h1 (hC h - sc S) (hT h - st S))
  | Sum.inr j => match sh M.1 with
    | [] => Q (Sum.inr j) (hGive h1 (hC h - sc S) (hT h - st S))
    | _ => match amCatch j pc (sh M.1) (amHk M.1) with
      | some t => ∀ q : Nat, J t ls [aO q] (hGive h1 (hC h - sc S) (hT h - st S))
      | none => False
def amCall (G : amG) (M : amM) (Q : amR → amH → Prop) (pc ci kind n : Nat) (S : amS) (K : amK1) (J : amJ1) (ls : List (Option amV)) (h : amH) : Option (List amV × List amV) → Prop
  | some (as, r) => (sc S ≤ hC h ∧ st S ≤ hT h ∧ amW8 r) ∧ (match kind with
      | 0 => amRecv h ci as
      | 3 => amRecv h ci as
      | 1 => True
      | 4 => True
      | _ => amSelf as) ∧
      CT G S as h (amAf M Q S pc K J ls r h)
  | none => False
def amCopy (h : amH) (K : List amV → amH → Prop) : List amV → Prop
  | Sum.inl n :: Sum.inl dp :: Sum.inr (Sum.inl (some b)) :: Sum.inl sp :: Sum.inr (Sum.inl (some a)) :: r =>
    ∃ n0 n1 : Nat, (hS h)[a]? = some (20, n0) ∧ (hS h)[b]? = some (20, n1) ∧ (0 ≤ n ∧ 0 ≤ sp ∧ 0 ≤ dp ∧ sp + n ≤ n0 ∧ dp + n ≤ n1 ∧ n0 ≤ 100000 ∧ n1 ≤ 100000 ∧ amW8 r) ∧ K r (uCpy h.1 a sp.toNat b dp.toNat n.toNat, h.2.1, h.2.2.1, h.2.2.2.1, h.2.2.2.2.1, h.2.2.2.2.2)
  | _ => False
def amStep (G : amG) (M : amM) (Q : amR → amH → Prop) (e : amE) (K : amK1) (J : amJ1) (ls : List (Option amV)) (sk : List amV) (h : amH) : Prop :=
  match e.2.1 with
  | .iload_n k => amLdI (fun v => K ls (v :: sk) h) (amGet ls k.val)
  | .iload k => amLdI (fun v => K ls (v :: sk) h) (amGet ls k)
  | .aload_n k => amLdR (fun v => K ls (v :: sk) h) (amGet ls k.val)
  | .aload k => amLdR (fun v => K ls (v :: sk) h) (amGet ls k)
  | .lload_n k => amLdL (fun v => K ls (v :: sk) h) (amGet ls k.val)
  | .lload k => amLdL (fun v => K ls (v :: sk) h) (amGet ls k)
  | .dload_n k => amLdD (fun v => K ls (v :: sk) h) (amGet ls k.val)
  | .dload k => amLdD (fun v => K ls (v :: sk) h) (amGet ls k)
  | .istore_n k => amStI (fun v r => K (amSt1 ls k.val v) r h) sk
  | .istore k => amStI (fun v r => K (amSt1 ls k v) r h) sk
  | .astore_n k => amStR (fun v r => K (amSt1 ls k.val v) r h) sk
  | .astore k => amStR (fun v r => K (amSt1 ls k v) r h) sk
  | .lstore_n k => amStL (fun v r => K (amSt2 ls k.val v) r h) sk
  | .lstore k => amStL (fun v r => K (amSt2 ls k v) r h) sk
  | .dstore_n k => amStD (fun v r => K (amSt2 ls k.val v) r h) sk
  | .dstore k => amStD (fun v r => K (amSt2 ls k v) r h) sk
  | .iinc k n => amLdI (fun v => match v with
      | Sum.inl x => amIn (x + n) ∧ K (amSt1 ls k (aI (x + n))) sk h
      | _ => False) (amGet ls k)
  | .iconst n => K ls (aI n :: sk) h
  | .bipush n => K ls (aI n :: sk) h
  | .sipush n => K ls (aI n :: sk) h
  | .lconst n => K ls (aL (Int64.ofNat n.val) :: sk) h
  | .dconst n => match n with
    | 0 => K ls (aD FP.dconst0 :: sk) h
    | 1 => K ls (aD FP.dconst1 :: sk) h
  | .ldc2_w _ => match e.2.2.2.1.1 with
    | 0 => K ls (aL (Int64.ofNat e.2.2.2.1.2.1) :: sk) h
    | _ => K ls (aD (UInt64.ofNat e.2.2.2.1.2.1) :: sk) h
  | .iadd => am2I (fun x y r => amIn (x + y) ∧ K ls (aI (x + y) :: r) h) sk
  | .isub => am2I (fun x y r => amIn (x - y) ∧ K ls (aI (x - y) :: r) h) sk
  | .imul => match e.2.2.2.1.1 with
    | 0 => am2I (fun x y r => amIn (x * y) ∧ K ls (aI (x * y) :: r) h) sk
    | _ => am2I (fun x y r => K ls (aI (Int32.ofInt x * Int32.ofInt y).toInt :: r) h) sk
  | .idiv => am2I (fun x y r => (y ≠ 0 ∧ amIn (Int.tdiv x y)) ∧ K ls (aI (Int.tdiv x y) :: r) h) sk
  | .irem => am2I (fun x y r => (y ≠ 0 ∧ amIn (Int.tdiv x y)) ∧ K ls (aI (Int.tmod x y) :: r) h) sk
  | .ineg => am1I (fun x r => amIn (-x) ∧ K ls (aI (-x) :: r) h) sk
  | .iand => am2I (fun x y r => K ls (aI (Int32.ofInt x &&& Int32.ofInt y).toInt :: r) h) sk
  | .ior => am2I (fun x y r => K ls (aI (Int32.ofInt x ||| Int32.ofInt y).toInt :: r) h) sk
  | .ishl => am2I (fun x y r => K ls (aI (Int32.ofInt x <<< (Int32.ofInt y &&& 31)).toInt :: r) h) sk
  | .ishr => am2I (fun x y r => K ls (aI (Int32.ofInt x >>> (Int32.ofInt y &&& 31)).toInt :: r) h) sk
  | .iushr => am2I (fun x y r => K ls (aI ((Int32.ofInt x).toUInt32 >>> ((Int32.ofInt y).toUInt32 &&& Int32.toUInt32 31)).toInt32.toInt :: r) h) sk
  | .ldc _ => K ls (aI (e.2.2.2.1.1 : Nat) :: sk) h
  | .i2l => am1I (fun x r => K ls (aL (Int64.ofInt x) :: r) h) sk
  | .i2d => am1I (fun x r => K ls (aD (FP.i2d (Int32.ofInt x)) :: r) h) sk
  | .ladd => am2L (fun x y r => K ls (aL (x + y) :: r) h) sk
  | .lsub => am2L (fun x y r => K ls (aL (x - y) :: r) h) sk
  | .lmul => am2L (fun x y r => K ls (aL (x * y) :: r) h) sk
  | .lor => am2L (fun x y r => K ls (aL (x ||| y) :: r) h) sk
  | .lcmp => am2L (fun x y r => K ls (aI (lg_cmp x y).toInt :: r) h) sk
  | .lshl => am1I (fun y r => amStL (fun v r => match v with
      | Sum.inr (Sum.inr (Sum.inl x)) => K ls (aL (x <<< ((Int32.ofInt y).toInt64 &&& 63)) :: r) h
      | _ => False) r) sk
  | .dmul => am2D (fun x y r => vf_n64 (FP.dmul x y) ∧ K ls (aD (FP.dmul x y) :: r) h) sk
  | .ddiv => am2D (fun x y r => vf_n64 (FP.ddiv x y) ∧ K ls (aD (FP.ddiv x y) :: r) h) sk
  | .dsub => am2D (fun x y r => vf_n64 (FP.dsub x y) ∧ K ls (aD (FP.dsub x y) :: r) h) sk
  | .dcmp op => am2D (fun x y r => K ls (aI (Op.cmpValue (FP.dcmp x y) op).toInt :: r) h) sk
  | .d2l => amStD (fun v r => match v with
      | Sum.inr (Sum.inr (Sum.inr (Sum.inl x))) => K ls (aL (FP.d2l x) :: r) h
      | _ => False) sk
  | .dup => amDup (fun r => K ls r h) sk
  | .dup2 => amDup2 (fun r => K ls r h) sk
  | .dup_x2 => amDupX2 (fun r => K ls r h) sk
  | .pop => amPop1 (fun r => K ls r h) sk
  | .nop => J e.1 ls sk h
  | .goto off => J (amJ e.1 off) ls sk h
  | .ifCond cc off => am1I (fun x r => (amCmp cc x 0 → J (amJ e.1 off) ls r h) ∧ (¬ amCmp cc x 0 → K ls r h)) sk
  | .if_icmp cc off => am2I (fun x y r => (amCmp cc x y → J (amJ e.1 off) ls r h) ∧ (¬ amCmp cc x y → K ls r h)) sk
  | .tableswitch dflt lo hi offs => am1I (fun x r => ((x < lo ∨ hi < x) → J (amJ e.1 dflt) ls r h) ∧ amSw e.1 (fun t => J t ls r h) x lo offs.toList) sk
  | .getfield _ => amGetF e.2.2.2.1.2.2 e.2.2.2.1.1 e.2.2.2.1.2.1 h (fun r => K ls r h) sk
  | .putfield _ => amPutF e.2.2.2.1.2.2 e.2.2.2.1.1 e.2.2.2.1.2.1 h (fun r h => K ls r h) sk
  | .arraylength => amLen G h (fun r => K ls r h) sk
  | .iaload => amIald G h (fun r => K ls r h) sk
  | .iastore => amIast h (fun r h => K ls r h) sk
  | .aaload => amAald h (fun r => K ls r h) sk
  | .aastore => amAast h (fun r h => K ls r h) sk
  | .newarray _ => amNewA e.2.2.2.1.1 h (fun r h => K ls r h) sk
  | .anewarray _ => amNewA e.2.2.2.1.1 h (fun r h => K ls r h) sk
  | .new _ => if e.2.2.2.1.1 < 100
      then (1 ≤ hC h ∧ e.2.2.2.1.2.1 ≤ hT h ∧ hX h = 0) ∧ K ls (aR (some (hS h).length) :: sk) (hNew h (e.2.2.2.1.1, 0) e.2.2.2.1.2.1)
      else (1 ≤ hC h ∧ 6 ≤ hT h ∧ amW8 sk) ∧ Q (Sum.inr (e.2.2.2.1.1 - 100)) (hThrow h)
  | .invokevirtual _ => match e.2.2.2.2 with
    | some S => amCall G M Q e.1 e.2.2.2.1.2.2 e.2.2.2.1.2.1 e.2.2.2.1.1 S K J ls h (amPop e.2.2.2.1.1 sk)
    | none => False
  | .invokestatic _ => match e.2.2.2.2 with
    | some S => amCall G M Q e.1 e.2.2.2.1.2.2 e.2.2.2.1.2.1 e.2.2.2.1.1 S K J ls h (amPop e.2.2.2.1.1 sk)
    | none => match e.2.2.2.1.2.1 with
      | 10 => am1I (fun x r => (amIn (-x) ∧ amW8 r) ∧ K ls (aI (if x < 0 then -x else x) :: r) h) sk
      | 11 => am2I (fun x y r => amW8 r ∧ K ls (aI (if x < y then y else x) :: r) h) sk
      | 12 => am2I (fun x y r => amW8 r ∧ K ls (aI (if y < x then y else x) :: r) h) sk
      | 13 => amCopy h (fun r h => K ls r h) sk
      | 14 => amStD (fun v r => match v with
        | Sum.inr (Sum.inr (Sum.inr (Sum.inl x))) => amW8 r ∧ K ls (aL x.toInt64 :: r) h
        | _ => False) sk
      | _ => False
  | .invokespecial _ => match e.2.2.2.2 with
    | some S => amCall G M Q e.1 e.2.2.2.1.2.2 e.2.2.2.1.2.1 e.2.2.2.1.1 S K J ls h (amPop e.2.2.2.1.1 sk)
    | none => amStR (fun _ r => amW8 r ∧ K ls r h) sk
  | .ireturn => match sk with
    | [Sum.inl x] => (match sr M.1 with
      | some .int => Q (Sum.inl (some (aI x))) h
      | some .boolean => (x = 0 ∨ x = 1) ∧ Q (Sum.inl (some (aI x))) h
      | _ => False)
    | _ => False
  | .lreturn => match sk with
    | [Sum.inr (Sum.inr (Sum.inl x))] => sr M.1 = some .long ∧ Q (Sum.inl (some (aL x))) h
    | _ => False
  | .dreturn => match sk with
    | [Sum.inr (Sum.inr (Sum.inr (Sum.inl x)))] => sr M.1 = some .double ∧ Q (Sum.inl (some (aD x))) h
    | _ => False
  | .return_ => match sk with
    | [] => sr M.1 = none ∧ Q (Sum.inl none) h
    | _ => False
  | _ => False
def amVc (G : amG) (M : amM) (Q : amR → amH → Prop) (J : amJ1) : List amE → amK1
  | [], _, _, _ => False
  | e :: l, ls, sk, h => amStep G M Q e (fun ls sk h => amVc G M Q J l ls sk h) J ls sk h
/-- what holds of the frame g's method for its end Z -/
def amEnd (G : amG) (M : amM) (Q : amR → amH → Prop) (p : Program) (e : Env) (R : Room) (s : State) (m : MethodId) (args : Array Value) (below : List Frame) (meth : Method) (c : Code) (Z : State → Prop) : Prop :=
  (Z = vx_MQ below (amQ G Q) (amXC G Q) args s R.cells R.slots (fun q => gB G ≤ q)) ∨ ((∀ j h, ¬ Q (Sum.inr j) h) ∧ sr M.1 = some .boolean ∧
    ∀ (x : Int) (h : amH) (H : Heap) (locs : List Loc) (cells slots : Nat) (LS : Array Slot) (pc : Nat), Q (Sum.inl (some (aI x))) h → (x = 0 ∨ x = 1) → amRel G h H → s.heap.size ≤ H.size → (∀ z ∈ locs, gB G ≤ z.base) → cells + hC h = R.cells → slots + hT h = R.slots → decode (sb M.1) pc = .ok (.ireturn, 1) →
      W p (gl G) e R s m args below meth c H locs cells slots Z (F0 m pc LS [.int (Int32.ofInt x)]))
/-- a place in a method's body, for the real machine and for the abstract one -/
def amA (G : amG) (M : amM) (Q : amR → amH → Prop) (p : Program) (e : Env) (R : Room) (s : State) (m : MethodId) (args : Array Value) (below : List Frame) (meth : Method) (c : Code) (Z : State → Prop) (H : Heap) (locs : List Loc) (cells slots : Nat) (LS : Array Slot) (ls : List (Option amV)) (sk : List amV) (h : amH) : Prop :=
  amG0 G ∧ amCtx G M p R s m meth c ∧ amEnd G M Q p e R s m args below meth c Z ∧ amRel G h H ∧ s.heap.size ≤ H.size ∧ (∀ z ∈ locs, gB G ≤ z.base) ∧ cells + hC h = R.cells ∧ slots + hT h = R.slots ∧ amLs (gB G) (sm M.1) ls LS ∧ (∀ v ∈ sk, amOk v)
/-- THE JUDGEMENT: from the place t, with these locals, stack and world, the method comes to an end of which Q holds -/
def X (G : amG) (M : amM) (Q : amR → amH → Prop) (t : Nat) (ls : List (Option amV)) (sk : List amV) (h : amH) : Prop :=
  ∀ (p : Program) (e : Env) (R : Room) (s : State) (m : MethodId) (args : Array Value) (below : List Frame) (meth : Method) (c : Code) (Z : State → Prop) (H : Heap) (locs : List Loc) (cells slots : Nat) (LS : Array Slot), amA G M Q p e R s m args below meth c Z H locs cells slots LS ls sk h →
    W p (gl G) e R s m args below meth c H locs cells slots Z (F0 m t LS (sk.map (amRv (gB G))))
/-- what the code's bytes and the tables' words say of an instruction -/
def amFld (M : amM) (idx ci k t : Nat) : Prop := ∃ (C : String) (T : u_T) (N : Nat), vwCl[ci]? = some (C, T, N) ∧ k < N ∧ (amF ci)[k]? = some t ∧ Cond.fieldLink M.2.1 idx (T k).1 (T k).2.1 (T k).2.2.1 ∈ lw_tbl
def amFin (M : amM) (ci k : Nat) : Prop := ∀ (C : String) (T : u_T) (N : Nat), vwCl[ci]? = some (C, T, N) → (T k).2.2.2 = true → (T k).1 = M.2.1 ∧ (sy M.1).name = "<init>"
def amCal (M : amM) (idx ci kind n : Nat) (S : amS) : Prop :=
  (amCode S ∈ lw_tbl ∧ goodWord (amCode S) = true) ∧ Cond.initialized (sy S).cls ∈ lw_tbl ∧ ((sy S).cls ≠ "java/lang/invoke/MethodHandle" ∧ (sy S).cls ≠ "java/lang/invoke/VarHandle") ∧ (sf S + 1 ≤ sf M.1 ∧ 8 + (sm S + 11) + sl S ≤ sl M.1) ∧
  (match kind with
    | 0 => (∃ (C : String) (T : u_T) (N : Nat), vwCl[ci]? = some (C, T, N) ∧ (sy S).cls = C) ∧ Cond.methodLink M.2.1 idx (sy S) ∈ lw_tbl ∧ Cond.instanceMethod (sy S) ∈ lw_tbl ∧ Cond.selects (sy S).cls (sy S) (sy S) ∈ lw_tbl ∧ (parseMethodDescriptor (sy S).desc).map (fun d => d.parameters.length + 1) = some n ∧ sh S = []
    | 1 => Cond.methodLink M.2.1 idx (sy S) ∈ lw_tbl ∧ Cond.static (sy S) ∈ lw_tbl ∧ (parseMethodDescriptor (sy S).desc).map (fun d => d.parameters.length) = some n
    | 2 => Cond.methodLink M.2.1 idx (sy S) ∈ lw_tbl ∧ Cond.instanceMethod (sy S) ∈ lw_tbl ∧ (sy S).name = "<init>" ∧ sr S = none ∧ (parseMethodDescriptor (sy S).desc).map (fun d => d.parameters.length + 1) = some n ∧ sh S = []
    | 3 => False
    | 4 => (∃ hs : String, Cond.methodLinkNest M.2.1 idx (sy S) hs ∈ lw_tbl) ∧ Cond.static (sy S) ∈ lw_tbl ∧ (parseMethodDescriptor (sy S).desc).map (fun d => d.parameters.length) = some n ∧ sh S = []
    | _ => (∃ hs : String, Cond.methodLinkNest M.2.1 idx (sy S) hs ∈ lw_tbl) ∧ Cond.instanceMethod (sy S) ∈ lw_tbl ∧ (sy S).name = "<init>" ∧ sr S = none ∧ (parseMethodDescriptor (sy S).desc).map (fun d => d.parameters.length + 1) = some n ∧ sh S = [])
/-- a throw: the row of places behind 'new', and the words of it -/
def amThr (M : amM) (pc ik j : Nat) : Prop := j < 3 ∧ sh M.1 = [] ∧ (3 + 3 ≤ sf M.1 ∧ 8 + 160 ≤ sl M.1) ∧ ∃ (is ic : Nat) (ls9 : Nat) (tx : String) (wide : Bool), Cond.stringRef M.2.1 is tx ∈ lw_tbl ∧ Cond.classLink M.2.1 ik (amEx j) ∈ lw_tbl ∧ Cond.initialized (amEx j) ∈ lw_tbl ∧
  (∀ w ∈ vx_atS M.2.1 ic (amEx j) ["java/lang/RuntimeException", "java/lang/Exception"], w ∈ lw_tbl ∧ w.onTables = true) ∧ (∀ w ∈ Cond.classLink M.2.1 ik (amEx j) :: Cond.initialized (amEx j) :: vx_atS M.2.1 ic (amEx j) ["java/lang/RuntimeException", "java/lang/Exception"], vx_ot w = true) ∧
  decode (sb M.1) (pc + 3) = .ok (.dup, 1) ∧ (if wide = true then decode (sb M.1) (pc + 4) = .ok (.ldc_w is, 3) ∧ ls9 = 7 else decode (sb M.1) (pc + 4) = .ok (.ldc is, 2) ∧ ls9 = 6) ∧ decode (sb M.1) (pc + ls9) = .ok (.invokespecial ic, 3) ∧ decode (sb M.1) (pc + ls9 + 3) = .ok (.athrow, 1)
def amOk1 (M : amM) (e : amE) : Prop := match e.2.1 with
  | .iload _ => e.2.2.1 = 2
  | .aload _ => e.2.2.1 = 2
  | .lload _ => e.2.2.1 = 2
  | .dload _ => e.2.2.1 = 2
  | .istore_n k => e.2.2.1 = 1 ∧ k.val < sm M.1
  | .astore_n k => e.2.2.1 = 1 ∧ k.val < sm M.1
  | .lstore_n k => e.2.2.1 = 1 ∧ k.val + 1 < sm M.1
  | .dstore_n k => e.2.2.1 = 1 ∧ k.val + 1 < sm M.1
  | .istore k => e.2.2.1 = 2 ∧ k < sm M.1
  | .astore k => e.2.2.1 = 2 ∧ k < sm M.1
  | .lstore k => e.2.2.1 = 2 ∧ k + 1 < sm M.1
  | .dstore k => e.2.2.1 = 2 ∧ k + 1 < sm M.1
  | .iinc k _ => e.2.2.1 = 3 ∧ k < sm M.1
  | .iconst n => e.2.2.1 = 1 ∧ (-10 ≤ n ∧ n ≤ 10)
  | .bipush n => e.2.2.1 = 2 ∧ (-128 ≤ n ∧ n < 128) ∧ (Int8.ofInt n).toInt32 = Int32.ofInt n
  | .sipush n => e.2.2.1 = 3 ∧ (-32768 ≤ n ∧ n < 32768) ∧ (Int16.ofInt n).toInt32 = Int32.ofInt n
  | .ldc idx => e.2.2.1 = 2 ∧ ∃ v : Int32, Cond.constant M.2.1 idx v ∈ lw_tbl ∧ v = Int32.ofInt (e.2.2.2.1.1 : Nat) ∧ amIn (e.2.2.2.1.1 : Nat)
  | .ldc2_w idx => e.2.2.1 = 3 ∧ (match e.2.2.2.1.1 with
    | 0 => Cond.constantLong M.2.1 idx (Int64.ofNat e.2.2.2.1.2.1) ∈ lw_tbl
    | _ => Cond.constantDouble M.2.1 idx (UInt64.ofNat e.2.2.2.1.2.1) ∈ lw_tbl)
  | .goto off => e.2.2.1 = 3 ∧ 0 ≤ (e.1 : Int) + off
  | .ifCond _ off => e.2.2.1 = 3 ∧ 0 ≤ (e.1 : Int) + off
  | .if_icmp _ off => e.2.2.1 = 3 ∧ 0 ≤ (e.1 : Int) + off
  | .tableswitch dflt lo hi offs => (0 ≤ (e.1 : Int) + dflt ∧ hi - lo + 1 = offs.size) ∧ ∀ o ∈ offs.toList, 0 ≤ (e.1 : Int) + o
  | .getfield idx => e.2.2.1 = 3 ∧ amFld M idx e.2.2.2.1.1 e.2.2.2.1.2.1 e.2.2.2.1.2.2
  | .putfield idx => e.2.2.1 = 3 ∧ amFld M idx e.2.2.2.1.1 e.2.2.2.1.2.1 e.2.2.2.1.2.2 ∧ amFin M e.2.2.2.1.1 e.2.2.2.1.2.1
  | .newarray at_ => e.2.2.1 = 2 ∧ (e.2.2.2.1.1 = 20 ∧ newarray.typeOf at_ = .int) ∧ Cond.arrayClass (newarray.typeOf at_) ∈ lw_tbl
  | .anewarray idx => e.2.2.1 = 3 ∧ (22 ≤ e.2.2.2.1.1 ∧ e.2.2.2.1.1 ≤ 24) ∧ ∃ C : String, amAK e.2.2.2.1.1 = .object C ∧ Cond.classLink M.2.1 idx C ∈ lw_tbl ∧ Cond.arrayOver (.object C) ∈ lw_tbl
  | .new idx => if e.2.2.2.1.1 < 100
      then e.2.2.1 = 3 ∧ ∃ (C : String) (T : u_T), vwCl[e.2.2.2.1.1]? = some (C, T, e.2.2.2.1.2.1) ∧ Cond.classLink M.2.1 idx C ∈ lw_tbl ∧ Cond.instantiable C e.2.2.2.1.2.1 ∈ lw_tbl ∧ Cond.initialized C ∈ lw_tbl
      else e.2.2.1 = 3 ∧ amThr M e.1 idx (e.2.2.2.1.1 - 100)
  | .invokevirtual idx => e.2.2.1 = 3 ∧ (e.2.2.2.1.2.1 = 0) ∧ (match e.2.2.2.2 with
    | some S => amCal M idx e.2.2.2.1.2.2 e.2.2.2.1.2.1 e.2.2.2.1.1 S
    | none => False)
  | .invokestatic idx => e.2.2.1 = 3 ∧ (match e.2.2.2.2 with
    | some S => (e.2.2.2.1.2.1 = 1 ∨ e.2.2.2.1.2.1 = 4) ∧ amCal M idx e.2.2.2.1.2.2 e.2.2.2.1.2.1 e.2.2.2.1.1 S
    | none => (1 ≤ sf M.1 ∧ 40 ≤ sl M.1) ∧ (match e.2.2.2.1.2.1 with
      | 10 => Cond.methodLink M.2.1 idx Lib.Math.abs.name ∈ lw_tbl ∧ Cond.static Lib.Math.abs.name ∈ lw_tbl ∧ Cond.initialized "java/lang/Math" ∈ lw_tbl ∧ Cond.code Lib.Math.abs.name Lib.Math.abs.code 1 (some .int) ∈ lw_tbl
      | 11 => Cond.methodLink M.2.1 idx Lib.Math.max.name ∈ lw_tbl ∧ Cond.static Lib.Math.max.name ∈ lw_tbl ∧ Cond.initialized "java/lang/Math" ∈ lw_tbl ∧ Cond.code Lib.Math.max.name Lib.Math.max.code 2 (some .int) ∈ lw_tbl
      | 12 => Cond.methodLink M.2.1 idx Lib.Math.min.name ∈ lw_tbl ∧ Cond.static Lib.Math.min.name ∈ lw_tbl ∧ Cond.initialized "java/lang/Math" ∈ lw_tbl ∧ Cond.code Lib.Math.min.name Lib.Math.min.code 2 (some .int) ∈ lw_tbl
      | 13 => Cond.methodLink M.2.1 idx arraycopyName ∈ lw_tbl ∧ Cond.native arraycopyName ∈ lw_tbl ∧ Cond.static arraycopyName ∈ lw_tbl ∧ Cond.initialized "java/lang/System" ∈ lw_tbl
      | 14 => Cond.methodLink M.2.1 idx ⟨"java/lang/Double", "doubleToRawLongBits", "(D)J"⟩ ∈ lw_tbl ∧ Cond.native ⟨"java/lang/Double", "doubleToRawLongBits", "(D)J"⟩ ∈ lw_tbl ∧ Cond.static ⟨"java/lang/Double", "doubleToRawLongBits", "(D)J"⟩ ∈ lw_tbl ∧ Cond.initialized "java/lang/Double" ∈ lw_tbl
      | _ => False))
  | .invokespecial idx => e.2.2.1 = 3 ∧ (match e.2.2.2.2 with
    | some S => (e.2.2.2.1.2.1 = 2 ∨ e.2.2.2.1.2.1 = 5) ∧ amCal M idx e.2.2.2.1.2.2 e.2.2.2.1.2.1 e.2.2.2.1.1 S
    | none => Cond.methodLink M.2.1 idx objectInit ∈ lw_tbl ∧ Cond.instanceMethod objectInit ∈ lw_tbl ∧ Cond.code objectInit ⟨#[0xb1]⟩ 1 none ∈ lw_tbl ∧ 1 ≤ sf M.1 ∧ 20 ≤ sl M.1)
  | .dcmp _ => e.2.2.1 = 1
  | _ => e.2.2.1 = 1
def amOkE (M : amM) (e : amE) : Prop := match e.2.1 with
  | .nop => True
  | _ => decode (sb M.1) e.1 = .ok (e.2.1, e.2.2.1) ∧ amOk1 M e
def amOkL (M : amM) : Nat → List amE → Prop
  | _, [] => True
  | pc, e :: l => e.1 = pc ∧ amOkE M e ∧ amOkL M (pc + e.2.2.1) l
/-- a method's table: which class each row names -/
def amTab (M : amM) : Prop := (sh M.1).length = (amHk M.1).length ∧ ∀ (i : Nat) (q : Nat × Nat × Nat × Nat) (k : Nat), (sh M.1)[i]? = some q → (amHk M.1)[i]? = some k → k < 3 ∧ q.2.2.2 ≠ 0 ∧ Cond.classLink M.2.1 q.2.2.2 (amEx k) ∈ lw_tbl ∧ Cond.castable (amEx k) (amEx k) ∈ lw_tbl
def amOkM (M : amM) : Prop := amTab M ∧ plainName (sy M.1).cls = true ∧ (sy M.1).cls = M.2.1 ∧ ∀ t l, M.2.2.lookup t = some l → amOkL M t l
