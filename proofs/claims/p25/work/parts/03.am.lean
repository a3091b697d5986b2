/-! ===== the abstract machine: numbers are Int (checked to be in the range of 32 bits), references are places of one world, whose cell k lies at the address B + k ===== -/
abbrev amV : Type := Int ⊕ (Option Nat ⊕ (Int64 ⊕ (UInt64 ⊕ Nat)))
abbrev aI (x : Int) : amV := Sum.inl x
abbrev aR (r : Option Nat) : amV := Sum.inr (Sum.inl r)
abbrev aL (x : Int64) : amV := Sum.inr (Sum.inr (Sum.inl x))
abbrev aD (x : UInt64) : amV := Sum.inr (Sum.inr (Sum.inr (Sum.inl x)))
/-- an address outside the world: the script, an exception -/
abbrev aO (a : Nat) : amV := Sum.inr (Sum.inr (Sum.inr (Sum.inr a)))
def amIn (x : Int) : Prop := -2147483648 ≤ x ∧ x ≤ 2147483647
def amRv (B : Nat) : amV → Value
  | Sum.inl x => .int (Int32.ofInt x)
  | Sum.inr (Sum.inl none) => .null
  | Sum.inr (Sum.inl (some a)) => .ref (B + a)
  | Sum.inr (Sum.inr (Sum.inl x)) => .long x
  | Sum.inr (Sum.inr (Sum.inr (Sum.inl x))) => .double x
  | Sum.inr (Sum.inr (Sum.inr (Sum.inr a))) => .ref a
def amOk : amV → Prop
  | Sum.inl x => amIn x
  | _ => True
def amCat : amV → Nat
  | Sum.inr (Sum.inr (Sum.inl _)) => 2
  | Sum.inr (Sum.inr (Sum.inr (Sum.inl _))) => 2
  | _ => 1
/-- numbers, references, longs, the kinds of the cells, how many cells lie behind the world, how many cells and slots may still come -/
abbrev amH : Type := (Nat → Nat → Int) × (Nat → Nat → Option Nat) × (Nat → Nat → Int64) × List (Nat × Nat) × Nat × Nat × Nat
abbrev hI (h : amH) : Nat → Nat → Int := h.1
abbrev hR (h : amH) : Nat → Nat → Option Nat := h.2.1
abbrev hL (h : amH) : Nat → Nat → Int64 := h.2.2.1
abbrev hS (h : amH) : List (Nat × Nat) := h.2.2.2.1
abbrev hX (h : amH) : Nat := h.2.2.2.2.1
abbrev hC (h : amH) : Nat := h.2.2.2.2.2.1
abbrev hT (h : amH) : Nat := h.2.2.2.2.2.2
abbrev hGive (h : amH) (c t : Nat) : amH := (h.1, h.2.1, h.2.2.1, h.2.2.2.1, h.2.2.2.2.1, c, t)
def u2 {α : Type} (f : Nat → Nat → α) (a k : Nat) (v : α) : Nat → Nat → α := fun x y => if x = a ∧ y = k then v else f x y
theorem u2_same {α : Type} (f : Nat → Nat → α) (a k : Nat) (v : α) : u2 f a k v a k = v := by simp [u2]
theorem u2_ne {α : Type} (f : Nat → Nat → α) {a k x y : Nat} (v : α) (h : ¬ (x = a ∧ y = k)) : u2 f a k v x y = f x y := by simp [u2, h]
abbrev hPutI (h : amH) (a k : Nat) (v : Int) : amH := (u2 h.1 a k v, h.2)
abbrev hPutR (h : amH) (a k : Nat) (v : Option Nat) : amH := (h.1, u2 h.2.1 a k v, h.2.2)
abbrev hPutL (h : amH) (a k : Nat) (v : Int64) : amH := (h.1, h.2.1, u2 h.2.2.1 a k v, h.2.2.2)
/-- a new cell: its numbers 0, its references null, its longs 0 -/
def u1 {α : Type} (f : Nat → Nat → α) (a : Nat) (v : α) : Nat → Nat → α := fun x y => if x = a then v else f x y
abbrev hNew (h : amH) (s : Nat × Nat) (t : Nat) : amH := (u1 h.1 h.2.2.2.1.length 0, u1 h.2.1 h.2.2.2.1.length none, u1 h.2.2.1 h.2.2.2.1.length 0, h.2.2.2.1 ++ [s], h.2.2.2.2.1, h.2.2.2.2.2.1 - 1, h.2.2.2.2.2.2 - t)
/-- a cell behind the world (an exception) -/
abbrev hThrow (h : amH) : amH := (h.1, h.2.1, h.2.2.1, h.2.2.2.1, h.2.2.2.2.1 + 1, h.2.2.2.2.2.1 - 1, h.2.2.2.2.2.2 - 6)
/-- numbers copied from row to row -/
def uCpy (f : Nat → Nat → Int) (a sp b dp n : Nat) : Nat → Nat → Int := fun x y => if x = b ∧ dp ≤ y ∧ y < dp + n then f a (sp + (y - dp)) else f x y
/-- the kinds of a class' fields: 0 a number, 1 a reference, 2 a long -/
def amF : Nat → List Nat
  | 0 => [1, 1]
  | 1 => [1, 0]
  | 2 => [1]
  | 3 => [0, 0, 0, 0]
  | 4 => [1, 1, 1]
  | 5 => [1]
  | 6 => [1, 0, 1, 1]
  | 7 => [0, 0, 0, 0, 0, 0, 0, 0]
  | 8 => [1, 1, 1, 0, 1, 0, 0, 0, 0, 1]
  | 9 => [1, 1, 1, 1, 1, 1]
  | _ => []
def amFT : Nat → Nat → FieldType
  | 0 => tyX0 | 1 => tyX1 | 2 => tyX2 | 3 => tyX3 | 4 => tyX4 | 5 => tyX5 | 6 => tyX6 | 7 => tyX7 | 8 => tyX8 | _ => tyX9
def amAK : Nat → FieldType
  | 20 => .int | 21 => .int | 22 => .object RX7 | 23 => .object RX3 | _ => .object RX8
def amVal (B : Nat) (h : amH) (t a k : Nat) : Value := match t with
  | 0 => .int (Int32.ofInt (hI h a k))
  | 1 => va_rf ((hR h a k).map (B + ·))
  | _ => .long (hL h a k)
def amFs (B : Nat) (h : amH) (ci a : Nat) : List Value := (amF ci).zipIdx.map (fun q => amVal B h q.1 a q.2)
def amCell (B : Nat) (cA : Nat → ClassId) (h : amH) (a : Nat) (s : Nat × Nat) : va_E :=
  if s.1 < 11 then .inr (s.1, amFs B h s.1 a)
  else if s.1 = 20 then .inl (cA 20, s.2, .inl (fun j => Int32.ofInt (hI h a j)))
  else if s.1 = 21 then .inl (cA 21, s.2, .inr (.inl (fun j => hL h a j)))
  else .inl (cA s.1, s.2, .inr (.inr (.inr (.inr (fun j => (hR h a j).map (B + ·))))))
def amWs (B : Nat) (cA : Nat → ClassId) (h : amH) : va_W := (hS h).zipIdx.map (fun q => (B + q.2, amCell B cA h q.2 q.1))
/-- the launch, the law's start, the script's address, length and ints, the classes as the tables have them, the arrays' classes -/
abbrev amG : Type := Launch × State × Nat × Nat × (Nat → Int32) × va_G × (Nat → ClassId)
abbrev gl (G : amG) : Launch := G.1
abbrev gs (G : amG) : State := G.2.1
abbrev gb (G : amG) : Nat := G.2.2.1
abbrev gn (G : amG) : Nat := G.2.2.2.1
abbrev gx (G : amG) : Nat → Int32 := G.2.2.2.2.1
abbrev gD (G : amG) : va_G := G.2.2.2.2.2.1
abbrev gA (G : amG) : Nat → ClassId := G.2.2.2.2.2.2
abbrev gB (G : amG) : Nat := (gs G).heap.size
def amTys (G : amG) : List (ClassId × FieldType) := [20, 21, 22, 23, 24].map (fun k => (gA G k, amAK k))
def amRel (G : amG) (h : amH) (H : Heap) : Prop :=
  va_P (gD G) vwCl (amWs (gB G) (gA G) h) H ∧ (∀ a k : Nat, amIn (hI h a k)) ∧ (∀ q : Nat, q < gB G → H[q]? = (gs G).heap[q]?) ∧ gB G + (hS h).length ≤ H.size ∧ (hX h = 0 → H.size = gB G + (hS h).length)
def amG0 (G : amG) : Prop :=
  (gl G).stackTraces = false ∧ (∀ w ∈ lw_tbl, w.before #[Value.ref (gb G)] (gs G) = true) ∧ va_K (gD G) vwCl (amTys G) (gs G) ∧ va_X (gb G) (gn G) (gx G) (gs G) (gs G).heap ∧ gb G < gB G ∧ gn G ≤ 2048 ∧
  vx_Zq Bundle.tN "UNASSIGNED_STACK" Bundle.steD (fun q => gB G ≤ q) (gs G) (gs G).heap ∧ vx_Zq Bundle.tN "SUPPRESSED_SENTINEL" Bundle.listD (fun q => gB G ≤ q) (gs G) (gs G).heap ∧
  (∀ own k tx, Cond.stringRef own k tx ∈ lw_tbl → ∃ a, vk_R own k tx a (gs G)) ∧
  True
/-- a method by its contract's side: its name, bytes, locals, what it returns, its table; frames, words of locals, cells and slots that it may take -/
abbrev amS : Type := MethodName × ByteArray × Nat × Option FieldType × List (Nat × Nat × Nat × Nat) × Nat × Nat × Nat × Nat
abbrev sy (S : amS) : MethodName := S.1
abbrev sb (S : amS) : ByteArray := S.2.1
abbrev sm (S : amS) : Nat := S.2.2.1
abbrev sr (S : amS) : Option FieldType := S.2.2.2.1
abbrev sh (S : amS) : List (Nat × Nat × Nat × Nat) := S.2.2.2.2.1
abbrev sf (S : amS) : Nat := S.2.2.2.2.2.1
abbrev sl (S : amS) : Nat := S.2.2.2.2.2.2.1
abbrev sc (S : amS) : Nat := S.2.2.2.2.2.2.2.1
abbrev st (S : amS) : Nat := S.2.2.2.2.2.2.2.2
def amCode (S : amS) : Cond := match sh S with
  | [] => .code (sy S) (sb S) (sm S) (sr S)
  | _ => .codeWith (sy S) (sb S) (sm S) (sr S) (sh S)
/-- what comes back: a value or none; or an exception, by its number -/
abbrev amR : Type := Option amV ⊕ Nat
def amEx : Nat → String
  | 0 => "java/lang/IndexOutOfBoundsException"
  | 1 => "java/lang/IllegalArgumentException"
  | _ => "java/lang/IllegalStateException"
def amPc (G : amG) (as : List amV) (h : amH) : Array Value → State → Prop := va_Pc (as.map (amRv (gB G))) (fun U => (∀ v ∈ as, amOk v) ∧ (gs G).WarmedH U.vm ∧ amRel G h U.heap)
def amQ (G : amG) (Q : amR → amH → Prop) : Array Value → State → Outcome → State → Prop := fun _ u o t =>
  ∃ (r : Option amV) (h : amH), Q (Sum.inl r) h ∧ (∀ v, r = some v → amOk v) ∧ o = .returned (r.map (amRv (gB G))) ∧ amRel G h t.heap ∧ u.heap.size ≤ t.heap.size
def amXC (G : amG) (Q : amR → amH → Prop) : String → State → State → Prop := fun E u t =>
  ∃ (j : Nat) (h : amH), Q (Sum.inr j) h ∧ E = amEx j ∧ j < 3 ∧ amRel G h t.heap ∧ u.heap.size ≤ t.heap.size
/-- THE CONTRACT of a method at its arguments and a world -/
def CT (G : amG) (S : amS) (as : List amV) (h : amH) (Q : amR → amH → Prop) : Prop :=
  vx_Met (gl G) (sy S) [amCode S] { frames := sf S, cells := sc S, slots := st S, locals := sl S } (amPc G as (hGive h (sc S) (st S))) (amQ G Q) (amXC G Q) (sc S) (st S) (fun q => gB G ≤ q)
/-- an instruction: its place, itself, its length; numbers (which class, which field ..), the callee -/
abbrev amE : Type := Nat × Instr × Nat × (Nat × Nat × Nat) × Option amS
/-- a method: by its contract's side, its class, its blocks -/
abbrev amM : Type := amS × String × List (Nat × List amE)
def amGet : List (Option amV) → Nat → Option amV
  | [], _ => none
  | a :: _, 0 => a
  | _ :: l, n + 1 => amGet l n
def amSet : List (Option amV) → Nat → Option amV → List (Option amV)
  | [], _, _ => []
  | _ :: l, 0, v => v :: l
  | a :: l, n + 1, v => a :: amSet l n v
/-- a store takes away the long that reaches into its place -/
def amCut (ls : List (Option amV)) : Nat → List (Option amV)
  | 0 => ls
  | j + 1 => match amGet ls j with
    | some w => if amCat w = 2 then amSet ls j none else ls
    | none => ls
def amSt1 (ls : List (Option amV)) (i : Nat) (v : amV) : List (Option amV) := amSet (amCut ls i) i (some v)
def amSt2 (ls : List (Option amV)) (i : Nat) (v : amV) : List (Option amV) := amSet (amSet (amCut ls i) i (some v)) (i + 1) none
def amLs (B : Nat) (nL : Nat) (ls : List (Option amV)) (LS : Array Slot) : Prop := LS.size = nL ∧ lv_wf LS ∧ ls.length = nL ∧ ∀ (i : Nat) (v : amV), amGet ls i = some v → LS[i]? = some (.val (amRv B v)) ∧ amOk v
/-- what is at hand inside a method's body -/
def amCtx (G : amG) (M : amM) (p : Program) (R : Room) (s : State) (m : MethodId) (meth : Method) (c : Code) : Prop :=
  p.tables.exec = Jvm.exec ∧ c.code = sb M.1 ∧ c.maxLocals = sm M.1 ∧ meth.sig.returnType = sr M.1 ∧ meth.locks = false ∧ s.vm.findClass M.2.1 = some m.cls ∧ (gs G).WarmedH s.vm ∧ gB G ≤ s.heap.size ∧
  c.exceptionTable.toList.map (fun x => (x.startPc, x.endPc, x.handlerPc, x.catchType)) = sh M.1 ∧ sf M.1 ≤ R.frames ∧ sl M.1 ≤ R.locals ∧ ((sy M.1).name = "<init>" → meth.name = "<init>") ∧ (∀ q : Nat, q < gB G → s.heap[q]? = (gs G).heap[q]?)
