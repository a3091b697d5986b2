section
-- ===== PART A: goes FIRST, ahead of the names: the tables' words, and 'selects' of the private methods out of them =====
/-- a private method of a class that the tables say can be made, by its rows of tables_1 -/
def lw_okq (q : MethodName × Nat) : Prop := (q.1.cls ≠ "java/lang/invoke/MethodHandle" ∧ q.1.cls ≠ "java/lang/invoke/VarHandle") ∧ Cond.instantiable q.1.cls q.2 ∈ tables_1 ∧ Cond.privateMethod q.1 ∈ tables_1 ∧ Cond.instanceMethod q.1 ∈ tables_1
theorem lw_p0 : lw_okq (⟨"java/lang/Throwable", "fillInStackTrace", "(I)Ljava/lang/Throwable;"⟩, 6) := ⟨⟨by decide +kernel, by decide +kernel⟩, List.mem_of_getElem? (i := 319) (by decide +kernel), List.mem_of_getElem? (i := 317) (by decide +kernel), List.mem_of_getElem? (i := 318) (by decide +kernel)⟩
theorem lw_p1 : lw_okq (⟨"CourierWar$History", "dropOldest", "()V"⟩, 2) := ⟨⟨by decide +kernel, by decide +kernel⟩, List.mem_of_getElem? (i := 177) (by decide +kernel), List.mem_of_getElem? (i := 370) (by decide +kernel), List.mem_of_getElem? (i := 371) (by decide +kernel)⟩
theorem lw_p2 : lw_okq (⟨"CourierWar", "countNow", "(I)I"⟩, 6) := ⟨⟨by decide +kernel, by decide +kernel⟩, List.mem_of_getElem? (i := 21) (by decide +kernel), List.mem_of_getElem? (i := 417) (by decide +kernel), List.mem_of_getElem? (i := 418) (by decide +kernel)⟩
theorem lw_p3 : lw_okq (⟨"CourierWar$War", "troopsThatAre", "(I)I"⟩, 10) := ⟨⟨by decide +kernel, by decide +kernel⟩, List.mem_of_getElem? (i := 29) (by decide +kernel), List.mem_of_getElem? (i := 425) (by decide +kernel), List.mem_of_getElem? (i := 426) (by decide +kernel)⟩
theorem lw_p4 : lw_okq (⟨"CourierWar$War", "strengthOf", "(I)I"⟩, 10) := ⟨⟨by decide +kernel, by decide +kernel⟩, List.mem_of_getElem? (i := 29) (by decide +kernel), List.mem_of_getElem? (i := 429) (by decide +kernel), List.mem_of_getElem? (i := 430) (by decide +kernel)⟩
theorem lw_p5 : lw_okq (⟨"CourierWar", "needTroop", "(I)V"⟩, 6) := ⟨⟨by decide +kernel, by decide +kernel⟩, List.mem_of_getElem? (i := 21) (by decide +kernel), List.mem_of_getElem? (i := 450) (by decide +kernel), List.mem_of_getElem? (i := 451) (by decide +kernel)⟩
theorem lw_p6 : lw_okq (⟨"CourierWar$War", "ordersFor", "(I)I"⟩, 10) := ⟨⟨by decide +kernel, by decide +kernel⟩, List.mem_of_getElem? (i := 29) (by decide +kernel), List.mem_of_getElem? (i := 459) (by decide +kernel), List.mem_of_getElem? (i := 460) (by decide +kernel)⟩
theorem lw_p7 : lw_okq (⟨"CourierWar$Paths", "isOpen", "(I)Z"⟩, 3) := ⟨⟨by decide +kernel, by decide +kernel⟩, List.mem_of_getElem? (i := 218) (by decide +kernel), List.mem_of_getElem? (i := 502) (by decide +kernel), List.mem_of_getElem? (i := 503) (by decide +kernel)⟩
theorem lw_p8 : lw_okq (⟨"CourierWar$Marshal", "march", "(LCourierWar$War;)V"⟩, 1) := ⟨⟨by decide +kernel, by decide +kernel⟩, List.mem_of_getElem? (i := 243) (by decide +kernel), List.mem_of_getElem? (i := 621) (by decide +kernel), List.mem_of_getElem? (i := 622) (by decide +kernel)⟩
theorem lw_p9 : lw_okq (⟨"CourierWar$Marshal", "stepToGoal", "(LCourierWar$War;I)V"⟩, 1) := ⟨⟨by decide +kernel, by decide +kernel⟩, List.mem_of_getElem? (i := 243) (by decide +kernel), List.mem_of_getElem? (i := 625) (by decide +kernel), List.mem_of_getElem? (i := 626) (by decide +kernel)⟩
theorem lw_p10 : lw_okq (⟨"CourierWar", "sendOrder", "(II)I"⟩, 6) := ⟨⟨by decide +kernel, by decide +kernel⟩, List.mem_of_getElem? (i := 21) (by decide +kernel), List.mem_of_getElem? (i := 706) (by decide +kernel), List.mem_of_getElem? (i := 707) (by decide +kernel)⟩
def lw_privs_1 : List (MethodName × Nat) := [(⟨"java/lang/Throwable", "fillInStackTrace", "(I)Ljava/lang/Throwable;"⟩, 6), (⟨"CourierWar$History", "dropOldest", "()V"⟩, 2), (⟨"CourierWar", "countNow", "(I)I"⟩, 6), (⟨"CourierWar$War", "troopsThatAre", "(I)I"⟩, 10), (⟨"CourierWar$War", "strengthOf", "(I)I"⟩, 10), (⟨"CourierWar", "needTroop", "(I)V"⟩, 6), (⟨"CourierWar$War", "ordersFor", "(I)I"⟩, 10), (⟨"CourierWar$Paths", "isOpen", "(I)Z"⟩, 3), (⟨"CourierWar$Marshal", "march", "(LCourierWar$War;)V"⟩, 1), (⟨"CourierWar$Marshal", "stepToGoal", "(LCourierWar$War;I)V"⟩, 1), (⟨"CourierWar", "sendOrder", "(II)I"⟩, 6)]
theorem lw_r1 : ∀ q ∈ lw_privs_1, lw_okq q := List.forall_mem_cons.mpr ⟨lw_p0, List.forall_mem_cons.mpr ⟨lw_p1, List.forall_mem_cons.mpr ⟨lw_p2, List.forall_mem_cons.mpr ⟨lw_p3, List.forall_mem_cons.mpr ⟨lw_p4, List.forall_mem_cons.mpr ⟨lw_p5, List.forall_mem_cons.mpr ⟨lw_p6, List.forall_mem_cons.mpr ⟨lw_p7, List.forall_mem_cons.mpr ⟨lw_p8, List.forall_mem_cons.mpr ⟨lw_p9, List.forall_mem_cons.mpr ⟨lw_p10, fun _ h => absurd h List.not_mem_nil⟩⟩⟩⟩⟩⟩⟩⟩⟩⟩⟩
def lw_privs : List (MethodName × Nat) := lw_privs_1
def lw_tbl : List Cond := k2_sels lw_privs ++ tables_1
theorem lw_privs_ok : ∀ q ∈ lw_privs, lw_okq q := lw_r1
/-- the streams that the claim lets the run draw from -/
abbrev lw_cs : List Choice := [Jvm.Choice.named "NaN.bits"]
theorem lw_bits : nanBits ∈ lw_cs := by first | decide | exact List.mem_cons_self | simp [lw_cs, nanBits]
/-! ===== BEGIN words of one list among another's, by their places ===== -/
theorem goodIn_r {big : List Cond} (ws : List Cond) (ps : List Nat) (hp : ws = ps.filterMap (fun i => big[i]?)) (h : ws.all goodWord = true) : GoodIn big ws := by
  intro w hw
  have h1 := List.all_eq_true.mp h w hw
  rw [hp] at hw
  obtain ⟨i, -, hi⟩ := List.mem_filterMap.mp hw
  have hm : w ∈ big := by first | exact List.mem_of_getElem? hi | exact List.getElem?_mem hi
  exact ⟨hm, good_of_word h1⟩
theorem goodIn_app {big a b : List Cond} (ha : GoodIn big a) (hb : GoodIn big b) : GoodIn big (a ++ b) := fun w h => (List.mem_append.mp h).elim (ha w) (hb w)
theorem goodIn_ca {big a b : List Cond} {c : Cond} (ha : GoodIn big (c :: a)) (hb : GoodIn big b) : GoodIn big (c :: (a ++ b)) := fun w h => (List.mem_cons.mp h).elim (fun e => ha w (List.mem_cons.mpr (Or.inl e))) (fun h => (List.mem_append.mp h).elim (fun h => ha w (List.mem_cons.mpr (Or.inr h))) (hb w))
theorem goodIn_sub {big ws : List Cond} (hm : ∀ w ∈ ws, w ∈ big) (h : ws.all goodWord = true) : GoodIn big ws := fun w hw => ⟨hm w hw, good_of_word (List.all_eq_true.mp h w hw)⟩
/-! ===== END ===== -/
/-! ===== BEGIN exceptions that leave a method, and their catching by the caller (launches without stack traces) ===== -/
section VXA
/-! The laws vx_back, vx_callV, vx_callS, vx_callSW, vx_throw0, vx_throwS follow proofs of the library, with one case more: JvmDerived/Free/Laws.lean (Back.of_free), Shelf42/LK1.lean (callV, callS), Shelf/KitTraced.lean (throwNew0V, throwNewS). -/
/-- where a method has thrown q: the class by its name, the cell, what was written, the world -/
def vx_T (XC : String → State → State → Prop) (st : State) (q : Addr) (t : State) (mc ms : Nat) (free : Addr → Prop) : Prop :=
  ∃ (E : String) (ce : Cell) (L : List Loc), XC E st t ∧ t.heap[q]? = some ce ∧ ce.vm = .none ∧ st.vm.findClass E = some ce.cls ∧ st.WarmedH t.vm ∧ st.sameButNew ({ t with vm := st.vm } : State) L mc ms ∧ ∀ z ∈ L, free z.base
def vx_Q (Qc : Array Value → State → Outcome → State → Prop) (XC : String → State → State → Prop) (mc ms : Nat) (free : Addr → Prop) : Array Value → State → Outcome → State → Prop := fun a st o t =>
  (Qc a st o t ∧ ∃ L, FrameEnd st o t L mc ms ∧ ∀ q ∈ L, free q.base) ∨ ∃ q, o = .threw q ∧ vx_T XC st q t mc ms free
/-- a callee that returns or throws -/
def vx_Met (l : Launch) (y : MethodName) (ws : List Cond) (rm : Room) (Pc : Array Value → State → Prop) (Qc : Array Value → State → Outcome → State → Prop) (XC : String → State → State → Prop) (mc ms : Nat) (free : Addr → Prop) : Prop :=
  MetFree l y (headSpec ws rm) Pc (fun _ _ _ _ _ => True) (vx_Q Qc XC mc ms free)
def vx_Post (XC : String → State → State → Prop) (mc ms : Nat) (free : Addr → Prop) : Pt → Array Value → Addr → Pt → Prop := fun A a q B =>
  ∃ (g : JFrame) (mk : MethodId) (t : State) (L : List Loc) (E : String) (ce : Cell), B.U.heap = t.heap ∧ B.U.vm = t.vm ∧ XC E (A.U.calling g mk a) t ∧ t.heap[q]? = some ce ∧ ce.vm = .none ∧ A.U.vm.findClass E = some ce.cls ∧ B.locs = A.locs ++ L ∧ (∀ z ∈ L, free z.base) ∧ B.cells = A.cells + mc ∧ B.slots = A.slots + ms
def vx_Back (l : Launch) (R : Room) (p : Program) (e : Env) (below : List Frame) (s : State) (sargs : Array Value) (y : MethodName) (len W9 : Nat)
    (Pre : Pt → Array Value → Prop) (Post : Pt → Array Value → Option Value → Pt → Prop) (PostX : Pt → Array Value → Addr → Pt → Prop) : Prop :=
  ∀ (m : MethodId) (meth : Method) (c : Code) (A : Pt) (g : JFrame) (ig : Instr) (mk : MethodId) (a : Array Value),
    Stand p l e R s m sargs below meth c A.U A.locs A.cells A.slots → g.method = m → g.locals.size = c.maxLocals → decode c.code g.pc = .ok (ig, len) →
    2 * g.monitorRoom + (g.stack.map fun v => v.category).sum ≤ W9 → A.U.methodNamed? y = some mk → Pre A a →
    (∃ (v : Option Value) (B : Pt), Stand p l e R s m sargs below meth c B.U B.locs B.cells B.slots ∧ Post A a v B ∧
      Steps p.tables e below (doInvoke e (A.U.setTop g) [] mk a).1 (B.U.setTop { g with pc := g.pc + len, stack := v.toList ++ g.stack })) ∨
    (∃ (q : Addr) (B : Pt), Stand p l e R s m sargs below meth c B.U B.locs B.cells B.slots ∧ PostX A a q B ∧
      Steps p.tables e below (doInvoke e (A.U.setTop g) [] mk a).1 ((B.U.setTop g).pushFrame (.throwing q)))
section Payer
variable {l : Launch} {R : Room} {p : Program} {e : Env} {below : List Frame} {s : State} {sargs : Array Value} {y : MethodName} {len W9 : Nat}
theorem vx_back {ws : List Cond} {rm : Room} {Pc : Array Value → State → Prop} {Qc : Array Value → State → Outcome → State → Prop} {XC : String → State → State → Prop} {mc ms : Nat} {free : Addr → Prop} {bytes : ByteArray} {maxL : Nat} {ret : Option FieldType}
    (hM : vx_Met l y ws rm Pc Qc XC mc ms free) (hblind : FrameBlind Pc) (hrc : rm.cells = mc) (hrs : rm.slots = ms)
    (hframes : rm.frames + 1 ≤ R.frames) (hlocals : W9 + (maxL + 11) + rm.locals ≤ R.locals)
    (hws : ∀ w ∈ ws, ∀ a' U, s.WarmedH U.vm → w.before a' U = true) (hcode : Cond.code y bytes maxL ret ∈ ws) (hinit : ∀ a' U, s.WarmedH U.vm → (Cond.initialized y.cls).before a' U = true) :
    vx_Back l R p e below s sargs y len W9 (PreOf R mc ms Pc) (PostOf Qc mc ms free) (vx_Post XC mc ms free) := by
  intro m meth c A g ig mk a X hg hsize hdg hW hn hp
  have h1 : (headSpec ws rm).pre.before a A.U = true := atoms_intro fun w hw => hws w hw _ _ X.warmed
  have h2 : (Cond.code y bytes maxL ret).before a A.U = true := hws _ hcode _ _ X.warmed
  have h3 : (Cond.initialized y.cls).before a A.U = true := hinit _ _ X.warmed
  have h4 : A.cells + (headSpec ws rm).room.cells ≤ R.cells := by rw [show (headSpec ws rm).room.cells = mc from hrc]; exact hp.1
  have h5 : A.slots + (headSpec ws rm).room.slots ≤ R.slots := by rw [show (headSpec ws rm).room.slots = ms from hrs]; exact hp.2.1
  have hPc : Pc a (A.U.calling g mk a) := hblind _ _ _ _ hp.2.2
  obtain ⟨U, Ls, c0, s0⟩ := A
  dsimp only [Pt.U, Pt.locs, Pt.cells, Pt.slots] at h1 h2 h3 h4 h5 X hn hPc ⊢
  obtain ⟨methY, cY, hmY, hcY, -, hlY, -, -, -, -⟩ := Cond.code_spec hn h2
  obtain ⟨kY, hkY, -⟩ := className_of_methodNamed hn
  have hinitY : kY.init = .initialized := Cond.initialized_spec (findClass_of_methodNamed hn) hkY h3
  have h : At U g.method c below := by rw [hg]; exact X.here
  have hlocals9 : W9 + (maxL + 11) + (headSpec ws rm).room.locals ≤ R.locals := hlocals
  have happ : (headSpec ws rm).appliesLoose y e.platform (U.calling g mk a) = true :=
    Spec.appliesLoose_calling (g := g) h hdg hn hkY hinitY
      (X.room_calling (g := g) (R' := (headSpec ws rm).room) hsize hmY hcY hframes (by rw [hlY]; omega) h4 h5) h1
  obtain ⟨mid, hmid⟩ := h.above
  have hfr : (U.setTop g).frames = (.java g :: mid) ++ below := by rw [State.frames_setTop' g h.top, hmid]; rfl
  obtain ⟨o, s₂, hsteps, -, hend, hq⟩ := Steps.callFree hM p X.admits X.cas X.clock (acts := []) hfr happ hPc trivial
  have hq' : vx_Q Qc XC mc ms free a (U.calling g mk a) o s₂ := hq
  rw [State.frames_setTop' g h.top] at hend
  obtain ⟨g₀, hg0⟩ := Option.isSome_iff_exists.mp h.top
  obtain ⟨r, hr⟩ := State.topJava?_eq_some.mp hg0
  have hr' : (({ U with heap := s₂.heap, slotsUsed := s₂.slotsUsed } : State).setVm s₂.vm).frames = .java g₀ :: r := hr
  rcases hq' with ⟨hqc, L, hfe, hL⟩ | ⟨q, rfl, E, ce, L, hx, hce, hcv, hcl, hW₂, hsm, hL⟩
  · obtain ⟨⟨v, rfl⟩, hW₂, e2, q2, q3, q4, q5, q6⟩ := id hfe
    have e3 : s₂ = ({ (U.calling g mk a).setFrames s₂.frames with heap := s₂.heap, slotsUsed := s₂.slotsUsed } : State).setVm s₂.vm := by
      have : s₂ = ({ s₂ with vm := (U.calling g mk a).vm } : State).setVm s₂.vm := rfl
      rw [e2] at this
      exact this
    obtain ⟨c₂, i₂, len₂, hc₂, hd₂, hf₂⟩ := hend
    have hW' : U.WarmedH s₂.vm := hW₂
    have hcc : c₂ = c := by
      have h1 : s₂.code? g.method = U.code? g.method := by
        rw [State.code?_eq, State.code?_eq, hW'.alike.method?]
      exact Option.some.inj (hc₂.symm.trans (h1.trans h.code))
    subst hcc
    have hlen : len₂ = len := by rw [hdg] at hd₂; cases hd₂; rfl
    subst hlen
    have hs₂ : s₂ = (({ U with heap := s₂.heap, slotsUsed := s₂.slotsUsed } : State).setVm s₂.vm).setTop { g with pc := g.pc + len₂, stack := v.toList ++ g.stack } := by
      refine e3.trans ?_
      rw [hf₂, State.calling_eq h.top, State.setFrames_setFrames, State.setTop_of_frames _ hr', hr]
      rfl
    have hsame : U.sameButNew ({ U with heap := s₂.heap, slotsUsed := s₂.slotsUsed } : State) L mc ms := by
      refine ⟨?_, q2, q3, q4, q5, q6⟩
      obtain ⟨t, ht, -⟩ := State.frames_cons hr
      show ({ U with heap := s₂.heap, slotsUsed := s₂.slotsUsed } : State) = { U.setFrames U.frames with heap := s₂.heap, slotsUsed := s₂.slotsUsed }
      rw [State.setFrames_self ht]
    subst hg
    refine Or.inl ⟨v, ⟨(({ U with heap := s₂.heap, slotsUsed := s₂.slotsUsed } : State).setVm s₂.vm), Ls ++ L, c0 + mc, s0 + ms⟩,
      ⟨X.admits, X.cas, X.clock, X.frames, X.room, X.hears, X.method, X.code, (X.here.setHeapUsed s₂.heap s₂.slotsUsed).setVm hW'.alike, X.tail, State.WarmedH.trans X.warmed hW', X.limits, X.bytes, X.same.trans (hsame.setVm s.vm)⟩,
      ⟨g, mk, s₂, L, rfl, rfl, hqc, rfl, hL, rfl, rfl⟩, ?_⟩
    show Steps p.tables e below _ ((({ U with heap := s₂.heap, slotsUsed := s₂.slotsUsed } : State).setVm s₂.vm).setTop { g with pc := g.pc + len₂, stack := v.toList ++ g.stack })
    rw [← hs₂]
    exact hsteps
  · obtain ⟨e2, q2, q3, q4, q5, q6⟩ := id hsm
    have e3 : s₂ = ({ (U.calling g mk a).setFrames s₂.frames with heap := s₂.heap, slotsUsed := s₂.slotsUsed } : State).setVm s₂.vm := by
      have : s₂ = ({ s₂ with vm := (U.calling g mk a).vm } : State).setVm s₂.vm := rfl
      rw [e2] at this
      exact this
    have hf₂ : s₂.frames = .throwing q :: .java g :: U.frames.tail := hend
    have hW' : U.WarmedH s₂.vm := hW₂
    have hs₂ : s₂ = ((({ U with heap := s₂.heap, slotsUsed := s₂.slotsUsed } : State).setVm s₂.vm).setTop g).pushFrame (.throwing q) := by
      refine e3.trans ?_
      rw [hf₂, State.calling_eq h.top, State.setFrames_setFrames, State.pushFrame, State.frames_setTop _ hr', State.setTop_of_frames _ hr', State.setFrames_setFrames, hr]
      rfl
    have hsame : U.sameButNew ({ U with heap := s₂.heap, slotsUsed := s₂.slotsUsed } : State) L mc ms := by
      refine ⟨?_, q2, q3, q4, q5, q6⟩
      obtain ⟨t, ht, -⟩ := State.frames_cons hr
      show ({ U with heap := s₂.heap, slotsUsed := s₂.slotsUsed } : State) = { U.setFrames U.frames with heap := s₂.heap, slotsUsed := s₂.slotsUsed }
      rw [State.setFrames_self ht]
    subst hg
    refine Or.inr ⟨q, ⟨(({ U with heap := s₂.heap, slotsUsed := s₂.slotsUsed } : State).setVm s₂.vm), Ls ++ L, c0 + mc, s0 + ms⟩,
      ⟨X.admits, X.cas, X.clock, X.frames, X.room, X.hears, X.method, X.code, (X.here.setHeapUsed s₂.heap s₂.slotsUsed).setVm hW'.alike, X.tail, State.WarmedH.trans X.warmed hW', X.limits, X.bytes, X.same.trans (hsame.setVm s.vm)⟩,
      ⟨g, mk, s₂, L, E, ce, rfl, rfl, hx, hce, hcv, hcl, rfl, hL, rfl, rfl⟩, ?_⟩
    show Steps p.tables e below _ (((({ U with heap := s₂.heap, slotsUsed := s₂.slotsUsed } : State).setVm s₂.vm).setTop g).pushFrame (.throwing q))
    rw [← hs₂]
    exact hsteps
end Payer
section Calls
variable {p : Program} {l : Launch} {e : Env} {R : Room} {s : State} {m : MethodId} {args : Array Value} {below : List Frame} {meth : Method} {c : Code} {T : State} {locs : List Loc} {cells slots : Nat}
theorem vx_callV (X : Stand p l e R s m args below meth c T locs cells slots) (hexec : p.tables.exec = Jvm.exec) {own C : String} {index : Nat} {y : MethodName} {bytes : ByteArray} {maxL : Nat} {ret : Option FieldType}
    (hown : s.vm.findClass own = some m.cls) (hlink : (Cond.methodLink own index y).before args s = true) (hinst : (Cond.instanceMethod y).before args s = true) (hsel : (Cond.selects C y y).before args s = true)
    (hcode : (Cond.code y bytes maxL ret).before args s = true) (hy : y.cls ≠ "java/lang/invoke/MethodHandle" ∧ y.cls ≠ "java/lang/invoke/VarHandle")
    {W9 : Nat} {Pre : Pt → Array Value → Prop} {Post : Pt → Array Value → Option Value → Pt → Prop} {PostX : Pt → Array Value → Addr → Pt → Prop} (hK : vx_Back l R p e below s args y 3 W9 Pre Post PostX)
    {b : Addr} {cellB : Cell} (hcell : T.heap[b]? = some cellB) (hobj : cellB.vm.isStatics = false) (hcls : s.vm.findClass C = some cellB.cls)
    {g : JFrame} (hg : g.method = m) (hsize : g.locals.size = c.maxLocals) {argsL rest : List Value} (hlen : ∀ sig, parseMethodDescriptor y.desc = some sig → argsL.length = sig.parameters.length)
    (hstack : g.stack = argsL.reverse ++ .ref b :: rest) (hW : 2 * g.monitorRoom + (rest.map fun v => v.category).sum ≤ W9) (hdg : decode c.code g.pc = .ok (.invokevirtual index, 3))
    (hpre : ∀ vm₁, s.WarmedH vm₁ → Pre ⟨T.setVm vm₁, locs, cells, slots⟩ (Value.ref b :: argsL).toArray) :
    (∃ (v : Option Value) (vm₁ : Vm) (B : Pt), s.WarmedH vm₁ ∧ Stand p l e R s m args below meth c B.U B.locs B.cells B.slots ∧ Post ⟨T.setVm vm₁, locs, cells, slots⟩ (Value.ref b :: argsL).toArray v B ∧
      ∀ target, Steps p.tables e below (B.U.setTop { g with pc := g.pc + 3, stack := v.toList ++ rest }) target → Steps p.tables e below (T.setTop g) target) ∨
    (∃ (q : Addr) (vm₁ : Vm) (B : Pt), s.WarmedH vm₁ ∧ Stand p l e R s m args below meth c B.U B.locs B.cells B.slots ∧ PostX ⟨T.setVm vm₁, locs, cells, slots⟩ (Value.ref b :: argsL).toArray q B ∧
      Steps p.tables e below (T.setTop g) ((B.U.setTop { g with stack := rest }).pushFrame (.throwing q))) := by
  obtain ⟨mk, methM, hnamed, hmethM, hstM, habM⟩ := Cond.instanceMethod_spec hinst
  obtain ⟨methM', cM, hmethM', -, -, -, -, -, -, hsigM⟩ := Cond.code_spec hnamed hcode
  cases hmethM.symm.trans hmethM'
  obtain ⟨c2, r2, m2, q1, q2, q3, q4, kP, hkP, hkPi⟩ := Cond.selects_spec hsel
  cases hcls.symm.trans q1
  cases (State.methodFound?_of_named hnamed hy).symm.trans q2
  cases hnamed.symm.trans q3
  have hselP : selectMethod e.platform s.vm cellB.cls mk = .method mk := by rw [Launch.admits_selectMethod X.admits]; exact q4
  obtain ⟨vm₁, X₁, hstep₁⟩ := X.invokevirtual hexec hown hlink hnamed hmethM hstM hkP hkPi hy (a := b) (cell := cellB) hcell
    (fun z h => by rw [h] at hobj; cases hobj) hselP hmethM habM hkP hkPi (g := g) hg (argsL := argsL) (rest := rest) (hlen _ hsigM) hstack hdg
  rcases hK m meth c ⟨T.setVm vm₁, locs, cells, slots⟩ { g with stack := rest } (.invokevirtual index) mk (Value.ref b :: argsL).toArray X₁ hg hsize hdg hW (X₁.named hnamed) (hpre vm₁ X₁.warmed) with ⟨v, B, X', hpost, hsteps⟩ | ⟨q, B, X', hpost, hsteps⟩
  · exact Or.inl ⟨v, vm₁, B, X₁.warmed, X', hpost, fun target h => hstep₁ _ fun acts => by rw [doInvoke_state]; exact hsteps.trans h⟩
  · exact Or.inr ⟨q, vm₁, B, X₁.warmed, X', hpost, hstep₁ _ fun acts => by rw [doInvoke_state]; exact hsteps⟩
theorem vx_callS (X : Stand p l e R s m args below meth c T locs cells slots) (hexec : p.tables.exec = Jvm.exec) {own : String} {index : Nat} {y : MethodName} {bytes : ByteArray} {maxL : Nat} {ret : Option FieldType}
    (hown : s.vm.findClass own = some m.cls) (hlink : (Cond.methodLink own index y).before args s = true) (hstat : (Cond.static y).before args s = true) (hinit : (Cond.initialized y.cls).before args s = true)
    (hcode : (Cond.code y bytes maxL ret).before args s = true) (hy : y.cls ≠ "java/lang/invoke/MethodHandle" ∧ y.cls ≠ "java/lang/invoke/VarHandle")
    {W9 : Nat} {Pre : Pt → Array Value → Prop} {Post : Pt → Array Value → Option Value → Pt → Prop} {PostX : Pt → Array Value → Addr → Pt → Prop} (hK : vx_Back l R p e below s args y 3 W9 Pre Post PostX)
    {g : JFrame} (hg : g.method = m) (hsize : g.locals.size = c.maxLocals) {argsL rest : List Value} (hlen : ∀ sig, parseMethodDescriptor y.desc = some sig → argsL.length = sig.parameters.length)
    (hstack : g.stack = argsL.reverse ++ rest) (hW : 2 * g.monitorRoom + (rest.map fun v => v.category).sum ≤ W9) (hdg : decode c.code g.pc = .ok (.invokestatic index, 3))
    (hpre : ∀ vm₁, s.WarmedH vm₁ → Pre ⟨T.setVm vm₁, locs, cells, slots⟩ argsL.toArray) :
    (∃ (v : Option Value) (vm₁ : Vm) (B : Pt), s.WarmedH vm₁ ∧ Stand p l e R s m args below meth c B.U B.locs B.cells B.slots ∧ Post ⟨T.setVm vm₁, locs, cells, slots⟩ argsL.toArray v B ∧
      ∀ target, Steps p.tables e below (B.U.setTop { g with pc := g.pc + 3, stack := v.toList ++ rest }) target → Steps p.tables e below (T.setTop g) target) ∨
    (∃ (q : Addr) (vm₁ : Vm) (B : Pt), s.WarmedH vm₁ ∧ Stand p l e R s m args below meth c B.U B.locs B.cells B.slots ∧ PostX ⟨T.setVm vm₁, locs, cells, slots⟩ argsL.toArray q B ∧
      Steps p.tables e below (T.setTop g) ((B.U.setTop { g with stack := rest }).pushFrame (.throwing q))) := by
  obtain ⟨mk, hnamed⟩ := Cond.code_named hcode
  obtain ⟨methM, cM, hmethM, -, -, -, -, -, -, hsigM⟩ := Cond.code_spec hnamed hcode
  have hstatic : methM.isStatic = true := Cond.static_spec hnamed hmethM hstat
  obtain ⟨kP, hkP, -⟩ := className_of_methodNamed hnamed
  have hinitP : kP.init = .initialized := Cond.initialized_spec (findClass_of_methodNamed hnamed) hkP hinit
  obtain ⟨vm₁, X₁, hstep₁⟩ := X.invokestatic hexec hown hlink hnamed hmethM hstatic hkP hinitP hy (g := g) hg (argsL := argsL) (rest := rest) (hlen _ hsigM) hstack hdg
  rcases hK m meth c ⟨T.setVm vm₁, locs, cells, slots⟩ { g with stack := rest } (.invokestatic index) mk argsL.toArray X₁ hg hsize hdg hW (X₁.named hnamed) (hpre vm₁ X₁.warmed) with ⟨v, B, X', hpost, hsteps⟩ | ⟨q, B, X', hpost, hsteps⟩
  · exact Or.inl ⟨v, vm₁, B, X₁.warmed, X', hpost, fun target h => hstep₁ _ fun acts => by rw [doInvoke_state]; exact hsteps.trans h⟩
  · exact Or.inr ⟨q, vm₁, B, X₁.warmed, X', hpost, hstep₁ _ fun acts => by rw [doInvoke_state]; exact hsteps⟩
end Calls
theorem vx_cls {s : State} {T : State} {vm₁ : Vm} {E : String} {k : ClassId} (hW : s.WarmedH vm₁) (h : (T.setVm vm₁).vm.findClass E = some k) : s.vm.findClass E = some k := by
  have h1 : vm₁.findClass E = some k := h
  rw [hW.alike.findClass] at h1
  exact h1
/-- the method's frame g, with q thrown over it -/
def vx_W (p : Program) (l : Launch) (e : Env) (R : Room) (s : State) (m : MethodId) (args : Array Value) (below : List Frame) (meth : Method) (c : Code) (H : Heap) (locs : List Loc) (cells slots : Nat) (Q : State → Prop) (g : JFrame) (q : Addr) : Prop :=
  ∀ T : State, T.heap = H → Stand p l e R s m args below meth c T locs cells slots → ∃ t, Steps p.tables e below ((T.setTop g).pushFrame (.throwing q)) t ∧ Q t
def vx_Run (p : Program) (l : Launch) (e : Env) (R : Room) (s : State) (m : MethodId) (args : Array Value) (below : List Frame) (meth : Method) (c : Code) (H : Heap) (locs : List Loc) (cells slots mc ms : Nat) (g : JFrame) (rest : List Value) (Qa : State → Outcome → State → Prop) (XC : String → State → State → Prop) (free : Addr → Prop) : Prop :=
  ∀ T : State, T.heap = H → Stand p l e R s m args below meth c T locs cells slots →
    (∃ (v : Option Value) (st₀ t T' : State) (L : List Loc), st₀.heap = H ∧ Stand p l e R s m args below meth c T' (locs ++ L) (cells + mc) (slots + ms) ∧ (∀ q ∈ L, free q.base) ∧ T'.heap = t.heap ∧ T'.vm = t.vm ∧ Qa st₀ (.returned v) t ∧
      Goes p e below T g T' { g with pc := g.pc + 3, stack := v.toList ++ rest }) ∨
    (∃ (q : Addr) (st₀ t T' : State) (L : List Loc) (E : String) (ce : Cell), st₀.heap = H ∧ Stand p l e R s m args below meth c T' (locs ++ L) (cells + mc) (slots + ms) ∧ (∀ z ∈ L, free z.base) ∧ T'.heap = t.heap ∧ T'.vm = t.vm ∧ XC E st₀ t ∧ t.heap[q]? = some ce ∧ ce.vm = .none ∧ s.vm.findClass E = some ce.cls ∧
      Steps p.tables e below (T.setTop g) ((T'.setTop { g with stack := rest }).pushFrame (.throwing q)))
def vx_X {S : Type} (px : S → Prop) (B : String → S → State → Prop) (A : Nat → Prop) : String → State → State → Prop := fun E st t => ∃ u : S, px u ∧ B E u t ∧ va_F A st t
section Runs
variable {p : Program} {l : Launch} {e : Env} {R : Room} {s : State} {m : MethodId} {args : Array Value} {below : List Frame} {meth : Method} {c : Code} {H : Heap} {locs : List Loc} {cells slots : Nat}
variable {y : MethodName} {bytes cc : ByteArray} {maxL nL mc ms n index : Nat} {ret : Option FieldType} {ws : List Cond} {rm : Room} {Pc : Array Value → State → Prop} {Qc : Array Value → State → Outcome → State → Prop} {XC : String → State → State → Prop} {free : Addr → Prop} {Ts : List Cond} {own C : String} {b : Addr} {As rest : List Value} {g : JFrame}
theorem vx_callBack (cb : CallB R s args own index y bytes maxL ret ws rm mc ms n) (hM : vx_Met l y ws rm Pc Qc XC mc ms free) (hbl : FrameBlind Pc) : vx_Back l R p e below s args y 3 8 (PreOf R mc ms Pc) (PostOf Qc mc ms free) (vx_Post XC mc ms free) := by
  obtain ⟨hrc, hrs, hfr, hlo, hws, hcw, -, hini, -⟩ := cb
  exact vx_back (bytes := bytes) (maxL := maxL) (ret := ret) hM hbl hrc hrs hfr hlo hws hcw (fun a' U hW => word_at hW (Or.inl (by first | rfl | simp [Cond.onTables, Cond.keeps, Cond.steady])) hini)
theorem vx_runV (S : CallFix p m c cc nL s args Ts own) (hM : vx_Met l y ws rm Pc Qc XC mc ms free) (cw : CallW R s args own C index y bytes maxL ret ws rm mc ms n) (hp : PreV s H C b Pc As)
    (hg : g.method = m) (hn : As.length = n) (hsize : g.locals.size = nL) (hstack : g.stack = As.reverse ++ .ref b :: rest) (hW : 2 * g.monitorRoom + (rest.map fun v => v.category).sum ≤ 8) (hdg : decode cc g.pc = .ok (.invokevirtual index, 3)) (hf : cells + mc ≤ R.cells ∧ slots + ms ≤ R.slots) :
    vx_Run p l e R s m args below meth c H locs cells slots mc ms g rest (Qc (Value.ref b :: As).toArray) XC free := by
  have hK : vx_Back l R p e below s args y 3 8 (PreOf R mc ms Pc) (PostOf Qc mc ms free) (vx_Post XC mc ms free) := vx_callBack cw.1 hM hp.1
  obtain ⟨⟨-, -, -, -, -, -, hcode, -, hy, hlen, hl⟩, hin, hse⟩ := cw
  obtain ⟨hx, hb, hml, ho, -⟩ := S
  obtain ⟨-, ⟨cellB, hcB, hoB, hclB⟩, hPc⟩ := hp
  intro T hT X
  rcases vx_callV X hx (C := C) (bytes := bytes) (maxL := maxL) (ret := ret) ho hl hin hse hcode hy hK (by rw [hT]; exact hcB) hoB hclB hg (hsize.trans hml.symm) (argsL := As) (rest := rest) (fun sig h => hn.trans (hlen sig h)) hstack hW (by rw [hb]; exact hdg)
    (fun vm₁ hW₁ => ⟨hf.1, hf.2, hPc (T.setVm vm₁) hT hW₁⟩) with ⟨v, vm₁, ⟨U', l2, c2, s2⟩, hW₁, X', ⟨g', mk, t, L, e1, e2, hq, h1, hL, h2, h3⟩, st⟩ | ⟨q, vm₁, ⟨U', l2, c2, s2⟩, hW₁, X', ⟨g', mk, t, L, E, ce, e1, e2, hq, hce, hcv, hcl, h1, hL, h2, h3⟩, st⟩
  · dsimp only [Pt.U, Pt.locs, Pt.cells, Pt.slots] at X' e1 e2 h1 h2 h3 st
    subst h1; subst h2; subst h3
    exact Or.inl ⟨v, (T.setVm vm₁).calling g' mk (Value.ref b :: As).toArray, t, U', L, hT, X', hL, e1, e2, hq, st⟩
  · dsimp only [Pt.U, Pt.locs, Pt.cells, Pt.slots] at X' e1 e2 h1 h2 h3 st hcl
    subst h1; subst h2; subst h3
    exact Or.inr ⟨q, (T.setVm vm₁).calling g' mk (Value.ref b :: As).toArray, t, U', L, E, ce, hT, X', hL, e1, e2, hq, hce, hcv, vx_cls hW₁ hcl, st⟩
theorem vx_runS (S : CallFix p m c cc nL s args Ts own) (hM : vx_Met l y ws rm Pc Qc XC mc ms free) (cw : CallB R s args own index y bytes maxL ret ws rm mc ms n ∧ (Cond.static y).before args s = true) (hp : PreS s H Pc As)
    (hg : g.method = m) (hn : As.length = n) (hsize : g.locals.size = nL) (hstack : g.stack = As.reverse ++ rest) (hW : 2 * g.monitorRoom + (rest.map fun v => v.category).sum ≤ 8) (hdg : decode cc g.pc = .ok (.invokestatic index, 3)) (hf : cells + mc ≤ R.cells ∧ slots + ms ≤ R.slots) :
    vx_Run p l e R s m args below meth c H locs cells slots mc ms g rest (Qc As.toArray) XC free := by
  have hK : vx_Back l R p e below s args y 3 8 (PreOf R mc ms Pc) (PostOf Qc mc ms free) (vx_Post XC mc ms free) := vx_callBack cw.1 hM hp.1
  obtain ⟨⟨-, -, -, -, -, -, hcode, hini, hy, hlen, hl⟩, hstt⟩ := cw
  obtain ⟨hx, hb, hml, ho, -⟩ := S
  intro T hT X
  rcases vx_callS X hx (bytes := bytes) (maxL := maxL) (ret := ret) ho hl hstt hini hcode hy hK hg (hsize.trans hml.symm) (argsL := As) (rest := rest) (fun sig h => hn.trans (hlen sig h)) hstack hW (by rw [hb]; exact hdg)
    (fun vm₁ hW₁ => ⟨hf.1, hf.2, hp.2 (T.setVm vm₁) hT hW₁⟩) with ⟨v, vm₁, ⟨U', l2, c2, s2⟩, hW₁, X', ⟨g', mk, t, L, e1, e2, hq, h1, hL, h2, h3⟩, st⟩ | ⟨q, vm₁, ⟨U', l2, c2, s2⟩, hW₁, X', ⟨g', mk, t, L, E, ce, e1, e2, hq, hce, hcv, hcl, h1, hL, h2, h3⟩, st⟩
  · dsimp only [Pt.U, Pt.locs, Pt.cells, Pt.slots] at X' e1 e2 h1 h2 h3 st
    subst h1; subst h2; subst h3
    exact Or.inl ⟨v, (T.setVm vm₁).calling g' mk As.toArray, t, U', L, hT, X', hL, e1, e2, hq, st⟩
  · dsimp only [Pt.U, Pt.locs, Pt.cells, Pt.slots] at X' e1 e2 h1 h2 h3 st hcl
    subst h1; subst h2; subst h3
    exact Or.inr ⟨q, (T.setVm vm₁).calling g' mk As.toArray, t, U', L, E, ce, hT, X', hL, e1, e2, hq, hce, hcv, vx_cls hW₁ hcl, st⟩
end Runs
section Rows
variable {p : Program} {l : Launch} {e : Env} {R : Room} {s : State} {m : MethodId} {args : Array Value} {below : List Frame} {meth : Method} {c : Code} {H : Heap} {locs : List Loc} {cells slots : Nat} {Q : State → Prop}
variable {mc ms : Nat} {free : Addr → Prop} {A0 A1 : Nat → Prop} {H0 : Heap} {a : Array Value} {pc : Nat} {ls : Array Slot} {st0 rest : List Value}
theorem vx_keep {st₀ t T' : State} {L : List Loc} (h0 : st₀.heap = H) (e1 : T'.heap = t.heap) (hS : va_S A0 H0 H locs) (hA : ∀ q, q < H.size → A1 q → A0 q) (hf : ∀ q, free q → A0 q) (hL : ∀ q ∈ L, free q.base) (hF : va_F A1 st₀ t) :
    H.size ≤ T'.heap.size ∧ (∀ q : Nat, q < H.size → ¬ A1 q → T'.heap[q]? = H[q]?) ∧ va_S A0 H0 T'.heap (locs ++ L) := by
  obtain ⟨hz, hk⟩ := hF
  rw [h0] at hz hk
  exact ⟨by rw [e1]; exact hz, fun q h1 h2 => by rw [e1]; exact hk q h1 h2,
    ⟨Nat.le_trans hS.1 (by rw [e1]; exact hz), fun q h1 h2 => by rw [e1, hk q (Nat.lt_of_lt_of_le h1 hS.1) (fun z => h2 (hA q (Nat.lt_of_lt_of_le h1 hS.1) z))]; exact hS.2.1 q h1 h2, fun q hq => by
      rcases List.mem_append.mp hq with h | h
      · exact hS.2.2 q h
      · exact hf _ (hL q h)⟩⟩
theorem vx_calli {S SX : Type} {post : Int32 → S → Prop} {px : SX → Prop} {B : S → State → Prop} {BX : String → SX → State → Prop} {AX : Nat → Prop} (hr : vx_Run p l e R s m args below meth c H locs cells slots mc ms (F0 m pc ls st0) rest (va_Qi post B A1 a) (vx_X px BX AX) free) (hS : va_S A0 H0 H locs) (hA : ∀ q, q < H.size → A1 q → A0 q) (hf : ∀ q, free q → A0 q) (hAX : ∀ q, q < H.size → AX q → A0 q)
    (kx : ∀ (E : String) (ce : Cell) (q9 : Addr) (u : SX) (t : State) (H1 : Heap) (locs1 : List Loc), t.heap = H1 → s.vm.Alike t.vm → px u → BX E u t → H.size ≤ H1.size → (∀ q : Nat, q < H.size → ¬ AX q → H1[q]? = H[q]?) → va_S A0 H0 H1 locs1 → H1[q9]? = some ce → ce.vm = .none → s.vm.findClass E = some ce.cls → vx_W p l e R s m args below meth c H1 locs1 (cells + mc) (slots + ms) Q (F0 m pc ls rest) q9)
    (kk : ∀ (r : Int32) (u : S) (t : State) (H1 : Heap) (locs1 : List Loc), t.heap = H1 → s.vm.Alike t.vm → post r u → B u t → H.size ≤ H1.size → (∀ q : Nat, q < H.size → ¬ A1 q → H1[q]? = H[q]?) → va_S A0 H0 H1 locs1 → W p l e R s m args below meth c H1 locs1 (cells + mc) (slots + ms) Q (F0 m (pc + 3) ls (.int r :: rest))) : W p l e R s m args below meth c H locs cells slots Q (F0 m pc ls st0) := by
  intro T hT X
  rcases hr T hT X with ⟨v, st₀, t, T', L, h0, X', hL, e1, e2, ⟨⟨r, u, hv, hp, hb⟩, hF⟩, st⟩ | ⟨q, st₀, t, T', L, E, ce, h0, X', hL, e1, e2, ⟨u, hp, hb, hF⟩, hce, hcv, hcl, st⟩
  · cases hv
    obtain ⟨k1, k2, k3⟩ := vx_keep h0 e1 hS hA hf hL hF
    obtain ⟨t2, a1, b1⟩ := kk r u t T'.heap (locs ++ L) e1.symm (by rw [← e2]; exact X'.warmed.alike) hp hb k1 k2 k3 T' rfl X'
    exact ⟨t2, st t2 a1, b1⟩
  · obtain ⟨k1, k2, k3⟩ := vx_keep h0 e1 hS hAX hf hL hF
    obtain ⟨t2, a1, b1⟩ := kx E ce q u t T'.heap (locs ++ L) e1.symm (by rw [← e2]; exact X'.warmed.alike) hp hb k1 k2 k3 (by rw [e1]; exact hce) hcv hcl T' rfl X'
    exact ⟨t2, st.trans a1, b1⟩
theorem vx_calll {S SX : Type} {post : Int64 → S → Prop} {px : SX → Prop} {B : S → State → Prop} {BX : String → SX → State → Prop} {AX : Nat → Prop} (hr : vx_Run p l e R s m args below meth c H locs cells slots mc ms (F0 m pc ls st0) rest (va_Ql post B A1 a) (vx_X px BX AX) free) (hS : va_S A0 H0 H locs) (hA : ∀ q, q < H.size → A1 q → A0 q) (hf : ∀ q, free q → A0 q) (hAX : ∀ q, q < H.size → AX q → A0 q)
    (kx : ∀ (E : String) (ce : Cell) (q9 : Addr) (u : SX) (t : State) (H1 : Heap) (locs1 : List Loc), t.heap = H1 → s.vm.Alike t.vm → px u → BX E u t → H.size ≤ H1.size → (∀ q : Nat, q < H.size → ¬ AX q → H1[q]? = H[q]?) → va_S A0 H0 H1 locs1 → H1[q9]? = some ce → ce.vm = .none → s.vm.findClass E = some ce.cls → vx_W p l e R s m args below meth c H1 locs1 (cells + mc) (slots + ms) Q (F0 m pc ls rest) q9)
    (kk : ∀ (r : Int64) (u : S) (t : State) (H1 : Heap) (locs1 : List Loc), t.heap = H1 → s.vm.Alike t.vm → post r u → B u t → H.size ≤ H1.size → (∀ q : Nat, q < H.size → ¬ A1 q → H1[q]? = H[q]?) → va_S A0 H0 H1 locs1 → W p l e R s m args below meth c H1 locs1 (cells + mc) (slots + ms) Q (F0 m (pc + 3) ls (.long r :: rest))) : W p l e R s m args below meth c H locs cells slots Q (F0 m pc ls st0) := by
  intro T hT X
  rcases hr T hT X with ⟨v, st₀, t, T', L, h0, X', hL, e1, e2, ⟨⟨r, u, hv, hp, hb⟩, hF⟩, st⟩ | ⟨q, st₀, t, T', L, E, ce, h0, X', hL, e1, e2, ⟨u, hp, hb, hF⟩, hce, hcv, hcl, st⟩
  · cases hv
    obtain ⟨k1, k2, k3⟩ := vx_keep h0 e1 hS hA hf hL hF
    obtain ⟨t2, a1, b1⟩ := kk r u t T'.heap (locs ++ L) e1.symm (by rw [← e2]; exact X'.warmed.alike) hp hb k1 k2 k3 T' rfl X'
    exact ⟨t2, st t2 a1, b1⟩
  · obtain ⟨k1, k2, k3⟩ := vx_keep h0 e1 hS hAX hf hL hF
    obtain ⟨t2, a1, b1⟩ := kx E ce q u t T'.heap (locs ++ L) e1.symm (by rw [← e2]; exact X'.warmed.alike) hp hb k1 k2 k3 (by rw [e1]; exact hce) hcv hcl T' rfl X'
    exact ⟨t2, st.trans a1, b1⟩
theorem vx_callf {S SX : Type} {post : UInt32 → S → Prop} {px : SX → Prop} {B : S → State → Prop} {BX : String → SX → State → Prop} {AX : Nat → Prop} (hr : vx_Run p l e R s m args below meth c H locs cells slots mc ms (F0 m pc ls st0) rest (va_Qf post B A1 a) (vx_X px BX AX) free) (hS : va_S A0 H0 H locs) (hA : ∀ q, q < H.size → A1 q → A0 q) (hf : ∀ q, free q → A0 q) (hAX : ∀ q, q < H.size → AX q → A0 q)
    (kx : ∀ (E : String) (ce : Cell) (q9 : Addr) (u : SX) (t : State) (H1 : Heap) (locs1 : List Loc), t.heap = H1 → s.vm.Alike t.vm → px u → BX E u t → H.size ≤ H1.size → (∀ q : Nat, q < H.size → ¬ AX q → H1[q]? = H[q]?) → va_S A0 H0 H1 locs1 → H1[q9]? = some ce → ce.vm = .none → s.vm.findClass E = some ce.cls → vx_W p l e R s m args below meth c H1 locs1 (cells + mc) (slots + ms) Q (F0 m pc ls rest) q9)
    (kk : ∀ (r : UInt32) (u : S) (t : State) (H1 : Heap) (locs1 : List Loc), t.heap = H1 → s.vm.Alike t.vm → post r u → B u t → H.size ≤ H1.size → (∀ q : Nat, q < H.size → ¬ A1 q → H1[q]? = H[q]?) → va_S A0 H0 H1 locs1 → W p l e R s m args below meth c H1 locs1 (cells + mc) (slots + ms) Q (F0 m (pc + 3) ls (.float r :: rest))) : W p l e R s m args below meth c H locs cells slots Q (F0 m pc ls st0) := by
  intro T hT X
  rcases hr T hT X with ⟨v, st₀, t, T', L, h0, X', hL, e1, e2, ⟨⟨r, u, hv, hp, hb⟩, hF⟩, st⟩ | ⟨q, st₀, t, T', L, E, ce, h0, X', hL, e1, e2, ⟨u, hp, hb, hF⟩, hce, hcv, hcl, st⟩
  · cases hv
    obtain ⟨k1, k2, k3⟩ := vx_keep h0 e1 hS hA hf hL hF
    obtain ⟨t2, a1, b1⟩ := kk r u t T'.heap (locs ++ L) e1.symm (by rw [← e2]; exact X'.warmed.alike) hp hb k1 k2 k3 T' rfl X'
    exact ⟨t2, st t2 a1, b1⟩
  · obtain ⟨k1, k2, k3⟩ := vx_keep h0 e1 hS hAX hf hL hF
    obtain ⟨t2, a1, b1⟩ := kx E ce q u t T'.heap (locs ++ L) e1.symm (by rw [← e2]; exact X'.warmed.alike) hp hb k1 k2 k3 (by rw [e1]; exact hce) hcv hcl T' rfl X'
    exact ⟨t2, st.trans a1, b1⟩
theorem vx_calld {S SX : Type} {post : UInt64 → S → Prop} {px : SX → Prop} {B : S → State → Prop} {BX : String → SX → State → Prop} {AX : Nat → Prop} (hr : vx_Run p l e R s m args below meth c H locs cells slots mc ms (F0 m pc ls st0) rest (va_Qd post B A1 a) (vx_X px BX AX) free) (hS : va_S A0 H0 H locs) (hA : ∀ q, q < H.size → A1 q → A0 q) (hf : ∀ q, free q → A0 q) (hAX : ∀ q, q < H.size → AX q → A0 q)
    (kx : ∀ (E : String) (ce : Cell) (q9 : Addr) (u : SX) (t : State) (H1 : Heap) (locs1 : List Loc), t.heap = H1 → s.vm.Alike t.vm → px u → BX E u t → H.size ≤ H1.size → (∀ q : Nat, q < H.size → ¬ AX q → H1[q]? = H[q]?) → va_S A0 H0 H1 locs1 → H1[q9]? = some ce → ce.vm = .none → s.vm.findClass E = some ce.cls → vx_W p l e R s m args below meth c H1 locs1 (cells + mc) (slots + ms) Q (F0 m pc ls rest) q9)
    (kk : ∀ (r : UInt64) (u : S) (t : State) (H1 : Heap) (locs1 : List Loc), t.heap = H1 → s.vm.Alike t.vm → post r u → B u t → H.size ≤ H1.size → (∀ q : Nat, q < H.size → ¬ A1 q → H1[q]? = H[q]?) → va_S A0 H0 H1 locs1 → W p l e R s m args below meth c H1 locs1 (cells + mc) (slots + ms) Q (F0 m (pc + 3) ls (.double r :: rest))) : W p l e R s m args below meth c H locs cells slots Q (F0 m pc ls st0) := by
  intro T hT X
  rcases hr T hT X with ⟨v, st₀, t, T', L, h0, X', hL, e1, e2, ⟨⟨r, u, hv, hp, hb⟩, hF⟩, st⟩ | ⟨q, st₀, t, T', L, E, ce, h0, X', hL, e1, e2, ⟨u, hp, hb, hF⟩, hce, hcv, hcl, st⟩
  · cases hv
    obtain ⟨k1, k2, k3⟩ := vx_keep h0 e1 hS hA hf hL hF
    obtain ⟨t2, a1, b1⟩ := kk r u t T'.heap (locs ++ L) e1.symm (by rw [← e2]; exact X'.warmed.alike) hp hb k1 k2 k3 T' rfl X'
    exact ⟨t2, st t2 a1, b1⟩
  · obtain ⟨k1, k2, k3⟩ := vx_keep h0 e1 hS hAX hf hL hF
    obtain ⟨t2, a1, b1⟩ := kx E ce q u t T'.heap (locs ++ L) e1.symm (by rw [← e2]; exact X'.warmed.alike) hp hb k1 k2 k3 (by rw [e1]; exact hce) hcv hcl T' rfl X'
    exact ⟨t2, st.trans a1, b1⟩
theorem vx_callv {S SX : Type} {post : S → Prop} {px : SX → Prop} {B : S → State → Prop} {BX : String → SX → State → Prop} {AX : Nat → Prop} (hr : vx_Run p l e R s m args below meth c H locs cells slots mc ms (F0 m pc ls st0) rest (va_Qv post B A1 a) (vx_X px BX AX) free) (hS : va_S A0 H0 H locs) (hA : ∀ q, q < H.size → A1 q → A0 q) (hf : ∀ q, free q → A0 q) (hAX : ∀ q, q < H.size → AX q → A0 q)
    (kx : ∀ (E : String) (ce : Cell) (q9 : Addr) (u : SX) (t : State) (H1 : Heap) (locs1 : List Loc), t.heap = H1 → s.vm.Alike t.vm → px u → BX E u t → H.size ≤ H1.size → (∀ q : Nat, q < H.size → ¬ AX q → H1[q]? = H[q]?) → va_S A0 H0 H1 locs1 → H1[q9]? = some ce → ce.vm = .none → s.vm.findClass E = some ce.cls → vx_W p l e R s m args below meth c H1 locs1 (cells + mc) (slots + ms) Q (F0 m pc ls rest) q9)
    (kk : ∀ (u : S) (t : State) (H1 : Heap) (locs1 : List Loc), t.heap = H1 → s.vm.Alike t.vm → post u → B u t → H.size ≤ H1.size → (∀ q : Nat, q < H.size → ¬ A1 q → H1[q]? = H[q]?) → va_S A0 H0 H1 locs1 → W p l e R s m args below meth c H1 locs1 (cells + mc) (slots + ms) Q (F0 m (pc + 3) ls (rest))) : W p l e R s m args below meth c H locs cells slots Q (F0 m pc ls st0) := by
  intro T hT X
  rcases hr T hT X with ⟨v, st₀, t, T', L, h0, X', hL, e1, e2, ⟨⟨u, hv, hp, hb⟩, hF⟩, st⟩ | ⟨q, st₀, t, T', L, E, ce, h0, X', hL, e1, e2, ⟨u, hp, hb, hF⟩, hce, hcv, hcl, st⟩
  · cases hv
    obtain ⟨k1, k2, k3⟩ := vx_keep h0 e1 hS hA hf hL hF
    obtain ⟨t2, a1, b1⟩ := kk u t T'.heap (locs ++ L) e1.symm (by rw [← e2]; exact X'.warmed.alike) hp hb k1 k2 k3 T' rfl X'
    exact ⟨t2, st t2 a1, b1⟩
  · obtain ⟨k1, k2, k3⟩ := vx_keep h0 e1 hS hAX hf hL hF
    obtain ⟨t2, a1, b1⟩ := kx E ce q u t T'.heap (locs ++ L) e1.symm (by rw [← e2]; exact X'.warmed.alike) hp hb k1 k2 k3 (by rw [e1]; exact hce) hcv hcl T' rfl X'
    exact ⟨t2, st.trans a1, b1⟩
/-- caught by the row x of this method's table; the rows ahead don't take it -/
theorem vx_catch {own name : String} {E : String} {ce : Cell} {q : Addr} (hown : s.vm.findClass own = some m.cls) (pre : List ExceptionTableEntry) (x : ExceptionTableEntry) (suf : List ExceptionTableEntry) (hsplit : c.exceptionTable.toList = pre ++ x :: suf)
    (hpass : ∀ z ∈ pre, covers z pc = false ∨ (z.catchType ≠ 0 ∧ ∃ nm : String, (Cond.classLink own z.catchType nm).before args s = true ∧ va_Nc E nm s)) (hx : covers x pc = true) (h0 : x.catchType ≠ 0)
    (hlink : (Cond.classLink own x.catchType name).before args s = true) (hcast : (Cond.castable E name).before args s = true) (hcell : H[q]? = some ce) (hv : ce.vm = .none) (hcl : s.vm.findClass E = some ce.cls)
    (kk : W p l e R s m args below meth c H locs cells slots Q (F0 m x.handlerPc ls [.ref q])) : vx_W p l e R s m args below meth c H locs cells slots Q (F0 m pc ls rest) q := by
  intro T hT X
  have hpl : e.platform.magicAccessors = ({} : Platform).magicAccessors := by rw [X.admits.platform]
  obtain ⟨c3, c4, hc3, hc4, hasg⟩ := Cond.castable_spec hcast
  cases Option.some.inj (hc3.symm.trans hcl)
  obtain ⟨c5, hc5, hcl5⟩ := Cond.classLink_spec hown hlink e.platform hpl
  cases Option.some.inj (hc4.symm.trans hc5)
  obtain ⟨vm', X', st⟩ := X.thenCaughtThrough q (g := F0 m pc ls rest) rfl (Steps.refl _) (by rw [hT]; exact hcell) (by rw [hv]; rfl) (by obtain ⟨k9, h9, -⟩ := Vm.findClass_spec hcl; exact ⟨k9, h9⟩) pre x suf hsplit
    (fun z hz => by
      rcases hpass z hz with h | ⟨hz0, nm, hl1, hn1⟩
      · exact Or.inl h
      · obtain ⟨c6, hc6, hcl6⟩ := Cond.classLink_spec hown hl1 e.platform hpl
        obtain ⟨a8, b8, h1, h2, h3⟩ := hn1
        cases Option.some.inj (h1.symm.trans hcl)
        cases Option.some.inj (h2.symm.trans hc6)
        exact Or.inr ⟨hz0, _, hcl6, h3⟩) hx (Or.inr ⟨h0, c4, hcl5, hasg⟩)
  obtain ⟨t, a1, b1⟩ := kk (T.setVm vm') hT X'
  exact ⟨t, st.trans a1, b1⟩
end Rows
section Ends
variable {p : Program} {l : Launch} {e : Env} {R : Room} {s : State} {m : MethodId} {args : Array Value} {below : List Frame} {meth : Method} {c : Code} {H : Heap} {locs : List Loc} {cells slots : Nat} {Q : State → Prop}
variable {mc ms : Nat} {free : Addr → Prop} {A0 A1 : Nat → Prop} {H0 : Heap} {a : Array Value} {ls : Array Slot} {st0 rest : List Value}
variable {Qc : Array Value → State → Outcome → State → Prop} {XC : String → State → State → Prop}
/-- what a body that may throw owes at its end -/
def vx_MQ (below : List Frame) (Qc : Array Value → State → Outcome → State → Prop) (XC : String → State → State → Prop) (a : Array Value) (s : State) (mc ms : Nat) (free : Addr → Prop) : State → Prop := fun t =>
  ∃ o, t.status = .running ∧ Ended t below o ∧ vx_Q Qc XC mc ms free a s o t
theorem vx_ret {g : JFrame} {mc ms : Nat} (k : W p l e R s m args below meth c H locs cells slots (MQ below Qc args s mc ms free) g) : W p l e R s m args below meth c H locs cells slots (vx_MQ below Qc XC args s mc ms free) g := by
  intro T hT X
  obtain ⟨t, a1, o, b1, b2, b3, b4⟩ := k T hT X
  exact ⟨t, a1, o, b1, b2, Or.inl ⟨b3, b4⟩⟩
/-- not caught here: it goes on to the caller -/
theorem vx_widen {g : JFrame} {q : Addr} {k n : Nat} (h1 : cells ≤ k) (h2 : slots ≤ n) (kk : vx_W p l e R s m args below meth c H locs k n Q g q) : vx_W p l e R s m args below meth c H locs cells slots Q g q := fun T hT X => kk T hT (stand_widen X h1 h2)
theorem vx_out {pc : Nat} {E : String} {ce : Cell} {q : Addr} {mc ms : Nat} (hout : ∀ x ∈ c.exceptionTable.toList, covers x pc = false) (hlocks : meth.locks = false) (hcell : H[q]? = some ce) (hv : ce.vm = .none) (hcl : s.vm.findClass E = some ce.cls)
    (hx : ∀ t : State, t.heap = H → s.vm.Alike t.vm → XC E s t) (hf : ∀ z ∈ locs, free z.base) (hc : cells ≤ mc) (hs : slots ≤ ms) :
    vx_W p l e R s m args below meth c H locs cells slots (vx_MQ below Qc XC args s mc ms free) (F0 m pc ls rest) q := by
  intro T hT X
  obtain ⟨st1, hrun, hend, hW, hsm⟩ := X.leaveThrown q (g := F0 m pc ls rest) rfl rfl rfl hout hlocks
  have hcell9 : (T.setFrames (.throwing q :: below)).heap[q]? = some ce := by
    show T.heap[q]? = some ce
    rw [hT]; exact hcell
  exact ⟨_, st1, .threw q, hrun, hend, Or.inr ⟨q, rfl, E, ce, locs, hx _ hT hW.alike, hcell9, hv, hcl, hW, hsm.mono hc hs, hf⟩⟩
theorem vx_frame {U : State} {k n : Nat} (h : s.sameButNew ({ U with vm := s.vm } : State) locs k n) : s.heap.size ≤ U.heap.size ∧ ∀ q : Nat, q < s.heap.size → (∀ z ∈ locs, z.base ≠ q) → U.heap[q]? = s.heap[q]? := by
  obtain ⟨-, h2, -, -, -, h6⟩ := h
  refine ⟨h2, fun q hq hz => ?_⟩
  obtain ⟨c9, e1, e2, e3, e4⟩ := h6 q _ (Array.getElem?_eq_getElem hq)
  have hs : c9.slots = (s.heap[q]).slots := Array.ext_getElem? fun i => e4 i fun hm => hz _ hm rfl
  have h9 : c9 = s.heap[q] := by
    rw [hs] at e2
    exact e2
  have e5 : U.heap[q]? = some c9 := e1
  rw [e5, h9, Array.getElem?_eq_getElem hq]
/-- the words of a throw but the four that speak of the heap -/
def vx_no (w : Cond) : Bool := decide (w ≠ .isRef (.static Bundle.tN "UNASSIGNED_STACK" Bundle.steD)) && decide (w ≠ .isRef (.static Bundle.tN "SUPPRESSED_SENTINEL" Bundle.listD)) && decide (w ≠ .laysStatic Bundle.tN "UNASSIGNED_STACK" Bundle.steD) && decide (w ≠ .laysStatic Bundle.tN "SUPPRESSED_SENTINEL" Bundle.listD)
def vx_at0 (own : String) (ic : Nat) (X : String) (names : List String) : List Cond := (Bundle.ownAtoms0 own ic X names).filter vx_no
def vx_atS (own : String) (ic : Nat) (X : String) (names : List String) : List Cond := (Bundle.ownAtoms own ic X names).filter vx_no
/-- a word that the tables alone decide, or a good one -/
def vx_ot (w : Cond) : Bool := w.onTables || goodWord w
theorem vx_ot_at {args a' : Array Value} {s U : State} {w : Cond} (hW : s.WarmedH U.vm) (hvm : s.vm = U.vm) (hg : vx_ot w = true) (h : w.before args s = true) : w.before a' U = true := by
  simp only [vx_ot, Bool.or_eq_true] at hg
  rcases hg with hg | hg
  · exact va_tabs hg hvm h
  · exact word_at hW (good_of_word hg) h
/-- a list's words: the good ones out of the method's own list, the others by premises of their own -/
theorem vx_hat {args : Array Value} {s : State} {L B : List Cond} (h1 : ∀ w ∈ L.filter goodWord, w.before args s = true) (h2 : ∀ w ∈ L.filter (fun w => !goodWord w), w ∈ B) (h3 : ∀ w ∈ B, w.before args s = true) : ∀ w ∈ L, w.before args s = true := by
  intro w hw
  by_cases g : goodWord w = true
  · exact h1 w (List.mem_filter.mpr ⟨hw, g⟩)
  · refine h3 w (h2 w (List.mem_filter.mpr ⟨hw, ?_⟩))
    show (!goodWord w) = true
    cases hgw : goodWord w
    · rfl
    · exact absurd hgw g
theorem vx_c {args : Array Value} {s : State} {w : Cond} {B : List Cond} (h : w.before args s = true) (t : ∀ w ∈ B, w.before args s = true) : ∀ w' ∈ w :: B, w'.before args s = true := fun w' h' => (List.mem_cons.mp h').elim (fun e => by rw [e]; exact h) (t w')
theorem vx_n {args : Array Value} {s : State} : ∀ w ∈ ([] : List Cond), w.before args s = true := fun _ h => nomatch h
theorem vx_own {args : Array Value} {s : State} {L : List Cond} (h1 : ∀ w ∈ L.filter vx_no, w.before args s = true)
    (hU : (Cond.isRef (.static Bundle.tN "UNASSIGNED_STACK" Bundle.steD)).before args s = true) (hN : (Cond.isRef (.static Bundle.tN "SUPPRESSED_SENTINEL" Bundle.listD)).before args s = true)
    (lU : (Cond.laysStatic Bundle.tN "UNASSIGNED_STACK" Bundle.steD).before args s = true) (lN : (Cond.laysStatic Bundle.tN "SUPPRESSED_SENTINEL" Bundle.listD).before args s = true) : ∀ w ∈ L, w.before args s = true := by
  intro w hw
  by_cases e1 : w = .isRef (.static Bundle.tN "UNASSIGNED_STACK" Bundle.steD)
  · rw [e1]; exact hU
  · by_cases e2 : w = .isRef (.static Bundle.tN "SUPPRESSED_SENTINEL" Bundle.listD)
    · rw [e2]; exact hN
    · by_cases e3 : w = .laysStatic Bundle.tN "UNASSIGNED_STACK" Bundle.steD
      · rw [e3]; exact lU
      · by_cases e4 : w = .laysStatic Bundle.tN "SUPPRESSED_SENTINEL" Bundle.listD
        · rw [e4]; exact lN
        · exact h1 w (List.mem_filter.mpr ⟨hw, by unfold vx_no; rw [decide_eq_true e1, decide_eq_true e2, decide_eq_true e3, decide_eq_true e4]; rfl⟩)
/-- where a static field lies, its class's statics cell in H -/
def vx_L (C n d : String) (A : Nat → Prop) (U : State) (H : Heap) : Prop := ∃ (c : ClassId) (k : Class) (i : Nat) (f : Field) (a : Nat) (cell : Cell), U.vm.findClass C = some c ∧ U.fieldFound? C n d = some (c, k, i, f) ∧ f.isStatic = true ∧ k.statics = some a ∧ H[a]? = some cell ∧ cell.vm.isStatics = true ∧ cell.cls = c ∧ f.slot < cell.slots.size ∧ k.staticTypes[f.slot]? = some f.type ∧ ¬ A a
theorem vx_L.moved {C n d : String} {A : Nat → Prop} {u U : State} {H : Heap} (hvm : u.vm.Alike U.vm) (h : vx_L C n d A u H) : vx_L C n d A U H := by
  obtain ⟨c, k, i, f, a, cell, h1, h2, h3, h4, h5, h6, h7, h8, h9, h10⟩ := h
  obtain ⟨k', hi', he⟩ := State.fieldFound?_setVm hvm h2
  exact ⟨c, k', i, f, a, cell, by rw [hvm.findClass]; exact h1, hi', h3, by rw [he]; exact h4, h5, h6, h7, h8, by rw [he]; exact h9, h10⟩
theorem vx_L.kept {C n d : String} {A : Nat → Prop} {U : State} {H H1 : Heap} (h : vx_L C n d A U H) (hq : ∀ a : Nat, a < H.size → ¬ A a → H1[a]? = H[a]?) : vx_L C n d A U H1 := by
  obtain ⟨c, k, i, f, a, cell, h1, h2, h3, h4, h5, h6, h7, h8, h9, h10⟩ := h
  exact ⟨c, k, i, f, a, cell, h1, h2, h3, h4, by rw [hq a (Array.getElem?_eq_some_iff.mp h5).1 h10]; exact h5, h6, h7, h8, h9, h10⟩
theorem vx_L.narrow {C n d : String} {A B : Nat → Prop} {U : State} {H : Heap} (h : vx_L C n d A U H) (hAB : ∀ q, B q → A q) : vx_L C n d B U H := by
  obtain ⟨c, k, i, f, a, cell, h1, h2, h3, h4, h5, h6, h7, h8, h9, h10⟩ := h
  exact ⟨c, k, i, f, a, cell, h1, h2, h3, h4, h5, h6, h7, h8, h9, fun z => h10 (hAB _ z)⟩
theorem vx_L.word {C n d : String} {A : Nat → Prop} {s : State} {args : Array Value} (h : vx_L C n d A s s.heap) : (Cond.laysStatic C n d).before args s = true := by
  obtain ⟨c, k, i, f, a, cell, h1, h2, h3, h4, h5, h6, h7, h8, h9, -⟩ := h
  show (Cond.laysStatic C n d).holds args s none s [] = true
  exact Cond.laysStatic_of h1 h2 h3 h4 h5 h6 h7 h8 h9
/-- .. and what it holds: null or some reference -/
def vx_Zq (C n d : String) (A : Nat → Prop) (U : State) (H : Heap) : Prop := va_Zq C n d A U H ∧ vx_L C n d A U H
theorem vx_Zq.moved {C n d : String} {A : Nat → Prop} {u U : State} {H : Heap} (hvm : u.vm.Alike U.vm) (h : vx_Zq C n d A u H) : vx_Zq C n d A U H := ⟨va_Zq.moved hvm h.1, vx_L.moved hvm h.2⟩
theorem vx_Zq.kept {C n d : String} {A : Nat → Prop} {U : State} {H H1 : Heap} (h : vx_Zq C n d A U H) (hq : ∀ a : Nat, a < H.size → ¬ A a → H1[a]? = H[a]?) : vx_Zq C n d A U H1 := ⟨va_Zq.kept h.1 hq, vx_L.kept h.2 hq⟩
theorem vx_Zq.narrow {C n d : String} {A B : Nat → Prop} {U : State} {H : Heap} (h : vx_Zq C n d A U H) (hAB : ∀ q, B q → A q) : vx_Zq C n d B U H := ⟨va_Zq.narrow h.1 hAB, vx_L.narrow h.2 hAB⟩
theorem vx_Zqof {args : Array Value} {s : State} {C n d : String} {A : Nat → Prop} (hl : (Cond.laysStatic C n d).before args s = true) (hini : (Cond.initialized C).before args s = true) (h : (Cond.isRef (.static C n d)).before args s = true) (hA : ∀ a : Nat, a < s.heap.size → ¬ A a) : vx_Zq C n d A s s.heap := by
  refine ⟨va_Zqof hl hini h hA, ?_⟩
  obtain ⟨c, k, i, f, a, cell, h1, h2, h3, h4, h5, h6, h7, h8, h9⟩ := Cond.laysStatic_spec hl
  exact ⟨c, k, i, f, a, cell, h1, h2, h3, h4, h5, h6, h7, h8, h9, hA a (Array.getElem?_eq_some_iff.mp h5).1⟩
theorem vx_isRef {C n d : String} {v : Value} {A : Nat → Prop} {s : State} {args : Array Value} (h : va_Z C n d v A s s.heap) (hv : v.isRef = true) : (Cond.isRef (.static C n d)).before args s = true := by
  obtain ⟨cf, kf, fi, f, a, cell, h1, h2, h3, h4, h5, h6, h7, -⟩ := h
  have he : (Term.static C n d).eval args s none [] s = some v := by
    simp [Term.eval, State.fieldNamed?, h1, h2, h4, h5, h6, h7]
  simp only [Cond.before, Cond.holds, Cond.value, he]
  cases v <;> simp_all [Value.isRef]
theorem vx_isRefq {C n d : String} {A : Nat → Prop} {s : State} {args : Array Value} (h : va_Zq C n d A s s.heap) : (Cond.isRef (.static C n d)).before args s = true := by
  rcases h with h | ⟨t, h⟩
  · exact vx_isRef h rfl
  · exact vx_isRef h rfl
/-- the same frame, seen from here: as if the method were called anew in this heap -/
theorem vx_rebase {T : State} (X : Stand p l e R s m args below meth c T locs cells slots) {R' : Room} (hf : R'.frames ≤ R.frames) (hl : R'.locals ≤ R.locals) (hc : cells + R'.cells ≤ R.cells) (hs : slots + R'.slots ≤ R.slots) :
    Stand p l e R' ((T.setVm s.vm).setFrames (.invoking m args :: below)) m args below meth c T [] 0 0 := by
  have htop : (T.setVm s.vm).topJava?.isSome := X.here.top
  have hF : ((T.setVm s.vm).setFrames (.invoking m args :: below)).frames = .invoking m args :: below := State.frames_setFrames _ (State.cur_lt_of_top htop)
  obtain ⟨g₀, hg0⟩ := Option.isSome_iff_exists.mp htop
  obtain ⟨r, hr⟩ := State.topJava?_eq_some.mp hg0
  have hl9 : e.platform.stackLimits (T.setVm s.vm).me = e.platform.stackLimits s.me := X.limits
  have hb9 : (T.setVm s.vm).me.stackBytes = s.me.stackBytes := X.bytes
  refine ⟨X.admits, X.cas, X.clock, hF, ?_, X.hears, X.method, X.code, X.here, X.tail, X.warmed, ?_, ?_, ?_⟩
  · have h := X.room
    have hU : ((T.setVm s.vm).setFrames (.invoking m args :: below)).localsInUse = s.localsInUse := by
      rw [State.localsInUse_invoking hF (meth := meth) (c := c) X.method X.code, State.localsInUse_invoking X.frames X.method X.code]
    simp only [State.hasRoom, Bool.and_eq_true, decide_eq_true_eq] at h ⊢
    obtain ⟨⟨⟨⟨h1, h2, h3, h4, h5, h6⟩, h7⟩, h8⟩, h9⟩ := h
    rw [X.frames, List.length_cons] at h2 h3
    have q1 := X.heapSize
    have q2 := X.used
    simp only [hF, hU, List.length_cons, State.stackLimits_setFrames, State.stackBytes_setFrames, hl9, hb9]
    refine ⟨⟨⟨⟨by omega, by omega, by omega, by omega, by omega, h6⟩, ?_⟩, ?_⟩, X.book⟩
    · show T.heap.size + R'.cells ≤ e.platform.maxCells
      omega
    · show T.slotsUsed + R'.slots ≤ e.platform.maxSlots
      omega
  · rw [State.stackLimits_setFrames]; rfl
  · rw [State.stackBytes_setFrames]; rfl
  · refine ⟨?_, Nat.le_refl _, Nat.le_refl _, ?_, ?_, fun a c9 h9 => ⟨c9, h9, rfl, rfl, fun _ _ => rfl⟩⟩
    · obtain ⟨t, ht, -⟩ := State.frames_cons hr
      show T.setVm s.vm = { ((T.setVm s.vm).setFrames (.invoking m args :: below)).setFrames (T.setVm s.vm).frames with heap := T.heap, slotsUsed := T.slotsUsed }
      rw [State.setFrames_setFrames, State.setFrames_self ht]
      rfl
    · show T.slotsUsed = T.slotsUsed + ((T.heap.toList.drop T.heap.size).map (·.slots.size)).sum
      rw [List.drop_eq_nil_of_le (Nat.le_of_eq Array.length_toList)]
      rfl
    · show ((T.heap.toList.drop T.heap.size).map (·.slots.size)).sum ≤ 0
      rw [List.drop_eq_nil_of_le (Nat.le_of_eq Array.length_toList)]
      exact Nat.le_refl _
/-- 'throw new E()': new; dup; invokespecial; athrow -/
theorem vx_throw0 {cc : ByteArray} {pc : Nat} (hexec : p.tables.exec = Jvm.exec) (hb : c.code = cc) (hl : l.stackTraces = false) {own cls : String} {names : List String} {ik ic mc ms : Nat} {A : Nat → Prop}
    (hown : s.vm.findClass own = some m.cls) (hcls : Bundle.fit cls = true) (hnames : ∀ n ∈ names, Bundle.fit n = true)
    (hk : (Cond.classLink own ik cls).before args s = true) (hini : (Cond.initialized cls).before args s = true) (hat : ∀ w ∈ vx_at0 own ic cls names, w.before args s = true)
    (hgood : ∀ w ∈ Cond.classLink own ik cls :: Cond.initialized cls :: vx_at0 own ic cls names, vx_ot w = true)
    (hU : vx_Zq Bundle.tN "UNASSIGNED_STACK" Bundle.steD A s s.heap) (hN : vx_Zq Bundle.tN "SUPPRESSED_SENTINEL" Bundle.listD A s s.heap) (hS : va_S A s.heap H locs) (hsize : ls.size = c.maxLocals)
    (d0 : decode cc pc = .ok (.new ik, 3)) (d3 : decode cc (pc + 3) = .ok (.dup, 1)) (d4 : decode cc (pc + 4) = .ok (.invokespecial ic, 3)) (d7 : decode cc (pc + 7) = .ok (.athrow, 1))
    (hout : ∀ x ∈ c.exceptionTable.toList, covers x (pc + 7) = false)
    (hRframes : names.length + 3 < R.frames) (hRlocals : (rest.map fun v => v.category).sum + (13 * (names.length + 1) + 42) ≤ R.locals) (hRcells : cells + 1 ≤ R.cells) (hRslots : slots + 6 ≤ R.slots) (hlocks : meth.locks = false)
    (hx : ∀ t : State, s.vm.Alike t.vm → H.size ≤ t.heap.size → (∀ q : Nat, q < H.size → t.heap[q]? = H[q]?) → XC cls s t)
    (hf : ∀ z ∈ locs, free z.base) (hc : cells + 1 ≤ mc) (hs : slots + 6 ≤ ms) :
    W p l e R s m args below meth c H locs cells slots (vx_MQ below Qc XC args s mc ms free) (F0 m pc ls rest) := by
  intro T hT X
  have htr : e.platform.stackTraces = false := (show e.platform.stackTraces = l.stackTraces by rw [X.admits.platform]).trans hl
  have Y := vx_rebase X (R' := { frames := R.frames, locals := R.locals, cells := 1, slots := 6 }) (Nat.le_refl _) (Nat.le_refl _) hRcells hRslots
  obtain ⟨s', hA⟩ : ∃ z, z = (T.setVm s.vm).setFrames (.invoking m args :: below) := ⟨_, rfl⟩
  rw [← hA] at Y
  have hvm : s'.vm = s.vm := by rw [hA]; rfl
  have hhp : s'.heap = H := by rw [hA]; exact hT
  have hW0 : s.WarmedH s'.vm := by rw [hvm]; exact State.WarmedH.refl s
  have hat' : ∀ w ∈ vx_at0 own ic cls names, w.before args s' = true := fun w hw => vx_ot_at hW0 hvm.symm (hgood w (List.mem_cons_of_mem _ (List.mem_cons_of_mem _ hw))) (hat w hw)
  have hk' : (Cond.classLink own ik cls).before args s' = true := vx_ot_at hW0 hvm.symm (hgood _ List.mem_cons_self) hk
  have hini' : (Cond.initialized cls).before args s' = true := vx_ot_at hW0 hvm.symm (hgood _ (List.mem_cons_of_mem _ List.mem_cons_self)) hini
  have hU' : vx_Zq Bundle.tN "UNASSIGNED_STACK" Bundle.steD A s' s'.heap := by rw [hhp]; exact vx_Zq.moved hW0.alike (hU.kept hS.2.1)
  have hN' : vx_Zq Bundle.tN "SUPPRESSED_SENTINEL" Bundle.listD A s' s'.heap := by rw [hhp]; exact vx_Zq.moved hW0.alike (hN.kept hS.2.1)
  have h : ∀ w ∈ Bundle.ownAtoms0 own ic cls names, w.before args s' = true := vx_own hat' (vx_isRefq hU'.1) (vx_isRefq hN'.1) hU'.2.word hN'.2.word
  have hown' : s'.vm.findClass own = some m.cls := by rw [hvm]; exact hown
  have hins : (Cond.instantiable cls 6).before args s' = true := h _ (by simp [Bundle.ownAtoms0])
  obtain ⟨vm₁, cX, kX, hfX, hkX, -, -, X₁, st1⟩ := Y.newCold hexec (own := own) (C := cls) (index := ik) (n := 6) hown' hk' hins hini'
    (g := F0 m pc ls rest) rfl (by rw [hb]; exact d0) (Nat.le_refl _) (Nat.le_refl _)
  generalize hT1 : (T.setVm vm₁).pushCell { cls := cX, slots := kX.instanceTypes.map defaultValue, vm := .none } = T1 at X₁ st1
  have hcat : (Value.ref T.heap.size).category = 1 := rfl
  have hcellA : T1.heap[T.heap.size]? = some (freshCell cX kX) := by rw [← hT1]; exact State.heap_pushCell_size _ _
  have d3' : decode c.code (pc + 3) = .ok (.dup, 1) := by rw [hb]; exact d3
  obtain ⟨U, hsteps, hrun, hend, hW, hsame, ce, hce, hO⟩ := X₁.ctorThrow0 hexec htr (own := own) (cls := cls) (names := names) (ic := ic) hown' hcls hnames h (fun x hx => nomatch hx) hfX hkX hcellA (by rw [hhp, hT]; exact Nat.le_refl _)
    (g := { method := m, pc := pc + 4, locals := ls, stack := .ref T.heap.size :: .ref T.heap.size :: rest, locked := none }) rfl hsize rfl rfl (rest := rest) rfl
    (by rw [hb]; exact d4) (by rw [hb]; exact d7) hout hRframes (by simp only [List.map_cons, List.sum_cons, hcat]; omega) hlocks
  obtain ⟨f1, f2⟩ := vx_frame hsame
  rw [hhp] at f1 f2
  have hWs : s.WarmedH U.vm := State.WarmedH.trans hW0 hW
  have hcl : s.vm.findClass cls = some ce.cls := by
    have h9 := hO.cls
    rw [hvm] at h9
    exact h9
  have hall : s.sameButNew ({ U with vm := s.vm } : State) locs mc ms := by
    subst hA
    obtain ⟨e1, e2⟩ := hsame
    rw [State.setFrames_setFrames] at e1
    have h2 : (T.setVm s.vm).sameButNew ({ U with vm := s.vm } : State) [] (0 + 1) (0 + 6) := ⟨e1, e2⟩
    have h3 := X.same.trans h2
    rw [List.append_nil] at h3
    exact h3.mono hc hs
  refine ⟨U, ?_, .threw T.heap.size, hrun, hend, Or.inr ⟨T.heap.size, rfl, cls, ce, locs, hx U hWs.alike f1 (fun q hq => f2 q hq (fun z hz => nomatch hz)), hce, hO.vm, hcl, hWs, hall, hf⟩⟩
  refine st1 _ ?_
  show Steps p.tables e below (T1.setTop { method := m, pc := pc + 3, locals := ls, stack := .ref T.heap.size :: rest, locked := none }) _
  jvm_step X₁.here [X₁.here.top, hexec, d3', Value.category]
  exact hsteps
/-- 'throw new E("text")': new; dup; ldc; invokespecial; athrow -/
theorem vx_throwS {cc : ByteArray} {pc : Nat} (hexec : p.tables.exec = Jvm.exec) (hb : c.code = cc) (hl : l.stackTraces = false) {own cls text : String} {names : List String} {ik is ic mc ms sa : Nat} {A : Nat → Prop}
    (hown : s.vm.findClass own = some m.cls) (hcls : Bundle.fit cls = true) (hnames : ∀ n ∈ names, Bundle.fit n = true)
    (hk : (Cond.classLink own ik cls).before args s = true) (hini : (Cond.initialized cls).before args s = true) (hstr : vk_R own is text sa s) (hat : ∀ w ∈ vx_atS own ic cls names, w.before args s = true)
    (hgood : ∀ w ∈ Cond.classLink own ik cls :: Cond.initialized cls :: vx_atS own ic cls names, vx_ot w = true)
    (hU : vx_Zq Bundle.tN "UNASSIGNED_STACK" Bundle.steD A s s.heap) (hN : vx_Zq Bundle.tN "SUPPRESSED_SENTINEL" Bundle.listD A s s.heap) (hS : va_S A s.heap H locs) (hsize : ls.size = c.maxLocals)
    (d0 : decode cc pc = .ok (.new ik, 3)) (d3 : decode cc (pc + 3) = .ok (.dup, 1)) (d4 : decode cc (pc + 4) = .ok (.ldc is, 2)) (d6 : decode cc (pc + 6) = .ok (.invokespecial ic, 3)) (d9 : decode cc (pc + 9) = .ok (.athrow, 1))
    (hout : ∀ x ∈ c.exceptionTable.toList, covers x (pc + 9) = false)
    (hRframes : names.length + 3 < R.frames) (hRlocals : (rest.map fun v => v.category).sum + (13 * (names.length + 1) + 43) ≤ R.locals) (hRcells : cells + 1 ≤ R.cells) (hRslots : slots + 6 ≤ R.slots) (hlocks : meth.locks = false)
    (hx : ∀ t : State, s.vm.Alike t.vm → H.size ≤ t.heap.size → (∀ q : Nat, q < H.size → t.heap[q]? = H[q]?) → XC cls s t)
    (hf : ∀ z ∈ locs, free z.base) (hc : cells + 1 ≤ mc) (hs : slots + 6 ≤ ms) :
    W p l e R s m args below meth c H locs cells slots (vx_MQ below Qc XC args s mc ms free) (F0 m pc ls rest) := by
  intro T hT X
  have htr : e.platform.stackTraces = false := (show e.platform.stackTraces = l.stackTraces by rw [X.admits.platform]).trans hl
  have Y := vx_rebase X (R' := { frames := R.frames, locals := R.locals, cells := 1, slots := 6 }) (Nat.le_refl _) (Nat.le_refl _) hRcells hRslots
  obtain ⟨s', hA⟩ : ∃ z, z = (T.setVm s.vm).setFrames (.invoking m args :: below) := ⟨_, rfl⟩
  rw [← hA] at Y
  have hvm : s'.vm = s.vm := by rw [hA]; rfl
  have hhp : s'.heap = H := by rw [hA]; exact hT
  have hW0 : s.WarmedH s'.vm := by rw [hvm]; exact State.WarmedH.refl s
  have hat' : ∀ w ∈ vx_atS own ic cls names, w.before args s' = true := fun w hw => vx_ot_at hW0 hvm.symm (hgood w (List.mem_cons_of_mem _ (List.mem_cons_of_mem _ hw))) (hat w hw)
  have hk' : (Cond.classLink own ik cls).before args s' = true := vx_ot_at hW0 hvm.symm (hgood _ List.mem_cons_self) hk
  have hini' : (Cond.initialized cls).before args s' = true := vx_ot_at hW0 hvm.symm (hgood _ (List.mem_cons_of_mem _ List.mem_cons_self)) hini
  have hU' : vx_Zq Bundle.tN "UNASSIGNED_STACK" Bundle.steD A s' s'.heap := by rw [hhp]; exact vx_Zq.moved hW0.alike (hU.kept hS.2.1)
  have hN' : vx_Zq Bundle.tN "SUPPRESSED_SENTINEL" Bundle.listD A s' s'.heap := by rw [hhp]; exact vx_Zq.moved hW0.alike (hN.kept hS.2.1)
  have h : ∀ w ∈ Bundle.ownAtoms own ic cls names, w.before args s' = true := vx_own hat' (vx_isRefq hU'.1) (vx_isRefq hN'.1) hU'.2.word hN'.2.word
  have hown' : s'.vm.findClass own = some m.cls := by rw [hvm]; exact hown
  have hins : (Cond.instantiable cls 6).before args s' = true := h _ (by simp [Bundle.ownAtoms])
  obtain ⟨vm₁, cX, kX, hfX, hkX, -, -, X₁, st1⟩ := Y.newCold hexec (own := own) (C := cls) (index := ik) (n := 6) hown' hk' hins hini'
    (g := F0 m pc ls rest) rfl (by rw [hb]; exact d0) (Nat.le_refl _) (Nat.le_refl _)
  generalize hT1 : (T.setVm vm₁).pushCell { cls := cX, slots := kX.instanceTypes.map defaultValue, vm := .none } = T1 at X₁ st1
  have hcat : (Value.ref T.heap.size).category = 1 := rfl
  have hcellA : T1.heap[T.heap.size]? = some (freshCell cX kX) := by rw [← hT1]; exact State.heap_pushCell_size _ _
  have d3' : decode c.code (pc + 3) = .ok (.dup, 1) := by rw [hb]; exact d3
  have d4' : decode c.code (pc + 4) = .ok (.ldc is, 2) := by rw [hb]; exact d4
  have hstr' : vk_R own is text sa s' := vk_R.warm hW0 hstr
  obtain ⟨U, hsteps, hrun, hend, hW, hsame, ce, hce, hO⟩ := X₁.ctorThrowS hexec htr (own := own) (cls := cls) (names := names) (ic := ic) hown' hcls hnames h (fun x hx => nomatch hx) hfX hkX hcellA (by rw [hhp, hT]; exact Nat.le_refl _) (msg := .ref sa) rfl
    (g := { method := m, pc := pc + 6, locals := ls, stack := .ref sa :: .ref T.heap.size :: .ref T.heap.size :: rest, locked := none }) rfl hsize rfl rfl (rest := rest) rfl
    (by rw [hb]; exact d6) (by rw [hb]; exact d9) hout hRframes (by simp only [List.map_cons, List.sum_cons, hcat]; omega) hlocks
  obtain ⟨f1, f2⟩ := vx_frame hsame
  rw [hhp] at f1 f2
  have hWs : s.WarmedH U.vm := State.WarmedH.trans hW0 hW
  have hcl : s.vm.findClass cls = some ce.cls := by
    have h9 := hO.cls
    rw [hvm] at h9
    exact h9
  have hall : s.sameButNew ({ U with vm := s.vm } : State) locs mc ms := by
    subst hA
    obtain ⟨e1, e2⟩ := hsame
    rw [State.setFrames_setFrames] at e1
    have h2 : (T.setVm s.vm).sameButNew ({ U with vm := s.vm } : State) [] (0 + 1) (0 + 6) := ⟨e1, e2⟩
    have h3 := X.same.trans h2
    rw [List.append_nil] at h3
    exact h3.mono hc hs
  refine ⟨U, ?_, .threw T.heap.size, hrun, hend, Or.inr ⟨T.heap.size, rfl, cls, ce, locs, hx U hWs.alike f1 (fun q hq => f2 q hq (fun z hz => nomatch hz)), hce, hO.vm, hcl, hWs, hall, hf⟩⟩
  refine st1 _ ?_
  show Steps p.tables e below (T1.setTop { method := m, pc := pc + 3, locals := ls, stack := .ref T.heap.size :: rest, locked := none }) _
  jvm_step X₁.here [X₁.here.top, hexec, d3', Value.category]
  exact X₁.ldcString hexec (own := own) (text := text) (index := is) (a := sa) hown' hstr'.1 hstr'.2
    (g := { method := m, pc := pc + 4, locals := ls, stack := .ref T.heap.size :: .ref T.heap.size :: rest, locked := none }) rfl d4' _ hsteps
/-- 'throw new E("text")', the text by a wide index -/
theorem vx_throwSW {cc : ByteArray} {pc : Nat} (hexec : p.tables.exec = Jvm.exec) (hb : c.code = cc) (hl : l.stackTraces = false) {own cls text : String} {names : List String} {ik is ic mc ms sa : Nat} {A : Nat → Prop}
    (hown : s.vm.findClass own = some m.cls) (hcls : Bundle.fit cls = true) (hnames : ∀ n ∈ names, Bundle.fit n = true)
    (hk : (Cond.classLink own ik cls).before args s = true) (hini : (Cond.initialized cls).before args s = true) (hstr : vk_R own is text sa s) (hat : ∀ w ∈ vx_atS own ic cls names, w.before args s = true)
    (hgood : ∀ w ∈ Cond.classLink own ik cls :: Cond.initialized cls :: vx_atS own ic cls names, vx_ot w = true)
    (hU : vx_Zq Bundle.tN "UNASSIGNED_STACK" Bundle.steD A s s.heap) (hN : vx_Zq Bundle.tN "SUPPRESSED_SENTINEL" Bundle.listD A s s.heap) (hS : va_S A s.heap H locs) (hsize : ls.size = c.maxLocals)
    (d0 : decode cc pc = .ok (.new ik, 3)) (d3 : decode cc (pc + 3) = .ok (.dup, 1)) (d4 : decode cc (pc + 4) = .ok (.ldc_w is, 3)) (d7 : decode cc (pc + 7) = .ok (.invokespecial ic, 3)) (d10 : decode cc (pc + 10) = .ok (.athrow, 1))
    (hout : ∀ x ∈ c.exceptionTable.toList, covers x (pc + 10) = false)
    (hRframes : names.length + 3 < R.frames) (hRlocals : (rest.map fun v => v.category).sum + (13 * (names.length + 1) + 43) ≤ R.locals) (hRcells : cells + 1 ≤ R.cells) (hRslots : slots + 6 ≤ R.slots) (hlocks : meth.locks = false)
    (hx : ∀ t : State, s.vm.Alike t.vm → H.size ≤ t.heap.size → (∀ q : Nat, q < H.size → t.heap[q]? = H[q]?) → XC cls s t)
    (hf : ∀ z ∈ locs, free z.base) (hc : cells + 1 ≤ mc) (hs : slots + 6 ≤ ms) :
    W p l e R s m args below meth c H locs cells slots (vx_MQ below Qc XC args s mc ms free) (F0 m pc ls rest) := by
  intro T hT X
  have htr : e.platform.stackTraces = false := (show e.platform.stackTraces = l.stackTraces by rw [X.admits.platform]).trans hl
  have Y := vx_rebase X (R' := { frames := R.frames, locals := R.locals, cells := 1, slots := 6 }) (Nat.le_refl _) (Nat.le_refl _) hRcells hRslots
  obtain ⟨s', hA⟩ : ∃ z, z = (T.setVm s.vm).setFrames (.invoking m args :: below) := ⟨_, rfl⟩
  rw [← hA] at Y
  have hvm : s'.vm = s.vm := by rw [hA]; rfl
  have hhp : s'.heap = H := by rw [hA]; exact hT
  have hW0 : s.WarmedH s'.vm := by rw [hvm]; exact State.WarmedH.refl s
  have hat' : ∀ w ∈ vx_atS own ic cls names, w.before args s' = true := fun w hw => vx_ot_at hW0 hvm.symm (hgood w (List.mem_cons_of_mem _ (List.mem_cons_of_mem _ hw))) (hat w hw)
  have hk' : (Cond.classLink own ik cls).before args s' = true := vx_ot_at hW0 hvm.symm (hgood _ List.mem_cons_self) hk
  have hini' : (Cond.initialized cls).before args s' = true := vx_ot_at hW0 hvm.symm (hgood _ (List.mem_cons_of_mem _ List.mem_cons_self)) hini
  have hU' : vx_Zq Bundle.tN "UNASSIGNED_STACK" Bundle.steD A s' s'.heap := by rw [hhp]; exact vx_Zq.moved hW0.alike (hU.kept hS.2.1)
  have hN' : vx_Zq Bundle.tN "SUPPRESSED_SENTINEL" Bundle.listD A s' s'.heap := by rw [hhp]; exact vx_Zq.moved hW0.alike (hN.kept hS.2.1)
  have h : ∀ w ∈ Bundle.ownAtoms own ic cls names, w.before args s' = true := vx_own hat' (vx_isRefq hU'.1) (vx_isRefq hN'.1) hU'.2.word hN'.2.word
  have hown' : s'.vm.findClass own = some m.cls := by rw [hvm]; exact hown
  have hins : (Cond.instantiable cls 6).before args s' = true := h _ (by simp [Bundle.ownAtoms])
  obtain ⟨vm₁, cX, kX, hfX, hkX, -, -, X₁, st1⟩ := Y.newCold hexec (own := own) (C := cls) (index := ik) (n := 6) hown' hk' hins hini'
    (g := F0 m pc ls rest) rfl (by rw [hb]; exact d0) (Nat.le_refl _) (Nat.le_refl _)
  generalize hT1 : (T.setVm vm₁).pushCell { cls := cX, slots := kX.instanceTypes.map defaultValue, vm := .none } = T1 at X₁ st1
  have hcat : (Value.ref T.heap.size).category = 1 := rfl
  have hcellA : T1.heap[T.heap.size]? = some (freshCell cX kX) := by rw [← hT1]; exact State.heap_pushCell_size _ _
  have d3' : decode c.code (pc + 3) = .ok (.dup, 1) := by rw [hb]; exact d3
  have d4' : decode c.code (pc + 4) = .ok (.ldc_w is, 3) := by rw [hb]; exact d4
  have hstr' : vk_R own is text sa s' := vk_R.warm hW0 hstr
  obtain ⟨U, hsteps, hrun, hend, hW, hsame, ce, hce, hO⟩ := X₁.ctorThrowS hexec htr (own := own) (cls := cls) (names := names) (ic := ic) hown' hcls hnames h (fun x hx => nomatch hx) hfX hkX hcellA (by rw [hhp, hT]; exact Nat.le_refl _) (msg := .ref sa) rfl
    (g := { method := m, pc := pc + 7, locals := ls, stack := .ref sa :: .ref T.heap.size :: .ref T.heap.size :: rest, locked := none }) rfl hsize rfl rfl (rest := rest) rfl
    (by rw [hb]; exact d7) (by rw [hb]; exact d10) hout hRframes (by simp only [List.map_cons, List.sum_cons, hcat]; omega) hlocks
  obtain ⟨f1, f2⟩ := vx_frame hsame
  rw [hhp] at f1 f2
  have hWs : s.WarmedH U.vm := State.WarmedH.trans hW0 hW
  have hcl : s.vm.findClass cls = some ce.cls := by
    have h9 := hO.cls
    rw [hvm] at h9
    exact h9
  have hall : s.sameButNew ({ U with vm := s.vm } : State) locs mc ms := by
    subst hA
    obtain ⟨e1, e2⟩ := hsame
    rw [State.setFrames_setFrames] at e1
    have h2 : (T.setVm s.vm).sameButNew ({ U with vm := s.vm } : State) [] (0 + 1) (0 + 6) := ⟨e1, e2⟩
    have h3 := X.same.trans h2
    rw [List.append_nil] at h3
    exact h3.mono hc hs
  refine ⟨U, ?_, .threw T.heap.size, hrun, hend, Or.inr ⟨T.heap.size, rfl, cls, ce, locs, hx U hWs.alike f1 (fun q hq => f2 q hq (fun z hz => nomatch hz)), hce, hO.vm, hcl, hWs, hall, hf⟩⟩
  refine st1 _ ?_
  show Steps p.tables e below (T1.setTop { method := m, pc := pc + 3, locals := ls, stack := .ref T.heap.size :: rest, locked := none }) _
  jvm_step X₁.here [X₁.here.top, hexec, d3', Value.category]
  exact X₁.ldcStringW hexec (own := own) (text := text) (index := is) (a := sa) hown' hstr'.1 hstr'.2
    (g := { method := m, pc := pc + 4, locals := ls, stack := .ref T.heap.size :: .ref T.heap.size :: rest, locked := none }) rfl d4' _ hsteps
end Ends
section Bodies
variable {l : Launch}
theorem vx_ofW {y : MethodName} {ws ws' : List Cond} {rm : Room} {Pc : Array Value → State → Prop} {Qc : Array Value → State → Outcome → State → Prop} {XC : String → State → State → Prop} {mc ms : Nat} {free : Addr → Prop} {cc : ByteArray} {maxL : Nat} {ret : Option FieldType}
    (hy : plainName y.cls = true) (hw : ws = Cond.code y cc maxL ret :: ws')
    (body : ∀ p e s m args below meth c s₁, BodyLoose p l y (headSpec ws rm) cc maxL ret e s m args below meth c s₁ → c.maxLocals = maxL → (∀ x ∈ c.exceptionTable.toList, False) → Pc args s →
      W p l e (headSpec ws rm).room s m args below meth c s.heap [] 0 0 (vx_MQ below Qc XC args s mc ms free) (entryFrame m args maxL)) : vx_Met l y ws rm Pc Qc XC mc ms free := by
  refine MetFree.of_bodyS (code := cc) (maxLocals := maxL) (ret := ret) hy ?_ ?_
  · intro args s m h hn
    obtain ⟨meth, c, h1, h2, h3, h4, h5, h6, -, -⟩ := Cond.code_spec hn (atoms_spec (ws := ws) h _ (by rw [hw]; exact List.mem_cons_self))
    exact ⟨meth, c, h1, h2, h3, h4, h5, h6⟩
  · intro p e s m args below meth c s₁ B hml hP _
    have hh0 : s₁.heap = s.heap := by rw [B.state]; rfl
    have ht : ∀ x ∈ c.exceptionTable.toList, False := by
      obtain ⟨meth9, c9, h1, h2, -, -, -, -, h7, -⟩ := Cond.code_spec B.named (atoms_spec (ws := ws) B.pre _ (by rw [hw]; exact List.mem_cons_self))
      cases Option.some.inj (h1.symm.trans B.method)
      cases Option.some.inj (h2.symm.trans (Stand.of_body B).code)
      intro x hx
      rw [Array.isEmpty_iff.mp h7] at hx
      cases hx
    obtain ⟨t, a1, o, b1, b2, b3⟩ := body p e s m args below meth c s₁ B hml ht hP s₁ hh0 (Stand.of_body B)
    exact ⟨t, o, a1, b1, b2, b3⟩
/-- the table of a body with handlers -/
theorem vx_table {p : Program} {x y : MethodName} {S : Spec} {cc bytes : ByteArray} {maxL maxL' : Nat} {ret ret' : Option FieldType} {e : Env} {s s₁ : State} {m : MethodId} {args : Array Value} {below : List Frame} {meth : Method} {c : Code} {hh : List (Nat × Nat × Nat × Nat)}
    (B : BodyLoose p l y S cc maxL ret e s m args below meth c s₁) (h : (Cond.codeWith y bytes maxL' ret' hh).before args s = true) : c.exceptionTable.toList = tableOf hh := by
  obtain ⟨m9, meth9, c9, hn9, h1, h2, -, -, h6, -⟩ := Cond.codeWith_spec h
  cases Option.some.inj (hn9.symm.trans B.named)
  cases Option.some.inj (h1.symm.trans B.method)
  cases Option.some.inj (h2.symm.trans (Stand.of_body B).code)
  rw [← h6, table_eq]
end Bodies
end VXA
/-! ===== END ===== -/
/-! ===== BEGIN a static call of a method with an exception table ===== -/
section VXS
variable {p : Program} {l : Launch} {e : Env} {R : Room} {s : State} {m : MethodId} {args : Array Value} {below : List Frame} {meth : Method} {c : Code} {T : State} {H : Heap} {locs : List Loc} {cells slots : Nat}
abbrev vx_CSW (R : Room) (s : State) (args : Array Value) (own : String) (index : Nat) (y : MethodName) (bytes : ByteArray) (maxL : Nat) (ret : Option FieldType) (hh : List (Nat × Nat × Nat × Nat)) (ws : List Cond) (rm : Room) (mc ms n : Nat) : Prop :=
  (rm.cells = mc ∧ rm.slots = ms ∧ rm.frames + 1 ≤ R.frames ∧ 8 + (maxL + 11) + rm.locals ≤ R.locals ∧ (∀ w ∈ ws, ∀ (a' : Array Value) (U : State), s.WarmedH U.vm → w.before a' U = true) ∧ Cond.codeWith y bytes maxL ret hh ∈ ws) ∧
  (Cond.codeWith y bytes maxL ret hh).before args s = true ∧ (Cond.initialized y.cls).before args s = true ∧ (y.cls ≠ "java/lang/invoke/MethodHandle" ∧ y.cls ≠ "java/lang/invoke/VarHandle") ∧
  (∀ sig, parseMethodDescriptor y.desc = some sig → n = sig.parameters.length) ∧ (Cond.methodLink own index y).before args s = true ∧ (Cond.static y).before args s = true
theorem vx_cwSW {own : String} {index maxL mc ms : Nat} {y : MethodName} {bytes : ByteArray} {ret : Option FieldType} {hh : List (Nat × Nat × Nat × Nat)} {Ts ws ws' : List Cond} {rm : Room} (n : Nat) (ht : ∀ w ∈ Ts, w.before args s = true) (hT : GoodIn Ts (va_wsS own index y ws)) (hw : ws = Cond.codeWith y bytes maxL ret hh :: ws') (hrc : rm.cells = mc) (hrs : rm.slots = ms)
    (hd : y.cls ≠ "java/lang/invoke/MethodHandle" ∧ y.cls ≠ "java/lang/invoke/VarHandle" ∧ (parseMethodDescriptor y.desc).map (fun d => d.parameters.length) = some n) (hR : rm.frames + 1 ≤ R.frames ∧ 8 + (maxL + 11) + rm.locals ≤ R.locals) :
    vx_CSW R s args own index y bytes maxL ret hh ws rm mc ms n := by
  have ok : ∀ w ∈ va_wsS own index y ws, w.before args s = true := fun w h => ht w (hT w h).1
  have hG : GoodIn Ts ws := fun w h => hT w (by unfold va_wsS; exact List.mem_append_right _ h)
  have hc : Cond.codeWith y bytes maxL ret hh ∈ ws := by rw [hw]; exact List.mem_cons_self
  refine ⟨⟨hrc, hrs, hR.1, hR.2, pay_in ht hG, hc⟩, ht _ (hG _ hc).1, ok _ (by simp [va_wsS]), ⟨hd.1, hd.2.1⟩, fun sig h => ?_, ok _ (by simp [va_wsS]), ok _ (by simp [va_wsS])⟩
  have h2 := hd.2.2
  rw [h] at h2
  exact (Option.some.inj h2).symm
theorem vx_callSW (X : Stand p l e R s m args below meth c T locs cells slots) (hexec : p.tables.exec = Jvm.exec) {own : String} {index : Nat} {y : MethodName} {bytes : ByteArray} {maxL : Nat} {ret : Option FieldType} {hh : List (Nat × Nat × Nat × Nat)}
    (hown : s.vm.findClass own = some m.cls) (hlink : (Cond.methodLink own index y).before args s = true) (hstat : (Cond.static y).before args s = true) (hinit : (Cond.initialized y.cls).before args s = true)
    (hcode : (Cond.codeWith y bytes maxL ret hh).before args s = true) (hy : y.cls ≠ "java/lang/invoke/MethodHandle" ∧ y.cls ≠ "java/lang/invoke/VarHandle")
    {W9 : Nat} {Pre : Pt → Array Value → Prop} {Post : Pt → Array Value → Option Value → Pt → Prop} (hK : Back l R p e below s args y 3 W9 Pre Post)
    {g : JFrame} (hg : g.method = m) (hsize : g.locals.size = c.maxLocals) {argsL rest : List Value} (hlen : ∀ sig, parseMethodDescriptor y.desc = some sig → argsL.length = sig.parameters.length)
    (hstack : g.stack = argsL.reverse ++ rest) (hW : 2 * g.monitorRoom + (rest.map fun v => v.category).sum ≤ W9) (hdg : decode c.code g.pc = .ok (.invokestatic index, 3))
    (hpre : ∀ vm₁, s.WarmedH vm₁ → Pre ⟨T.setVm vm₁, locs, cells, slots⟩ argsL.toArray) :
    ∃ (v : Option Value) (vm₁ : Vm) (B : Pt), s.WarmedH vm₁ ∧ Stand p l e R s m args below meth c B.U B.locs B.cells B.slots ∧ Post ⟨T.setVm vm₁, locs, cells, slots⟩ argsL.toArray v B ∧
      ∀ target, Steps p.tables e below (B.U.setTop { g with pc := g.pc + 3, stack := v.toList ++ rest }) target → Steps p.tables e below (T.setTop g) target := by
  obtain ⟨mk, methM, cM, hnamed, hmethM, -, -, -, -, -, -, hsigM⟩ := Cond.codeWith_spec hcode
  have hstatic : methM.isStatic = true := Cond.static_spec hnamed hmethM hstat
  obtain ⟨kP, hkP, -⟩ := className_of_methodNamed hnamed
  have hinitP : kP.init = .initialized := Cond.initialized_spec (findClass_of_methodNamed hnamed) hkP hinit
  obtain ⟨vm₁, X₁, hstep₁⟩ := X.invokestatic hexec hown hlink hnamed hmethM hstatic hkP hinitP hy (g := g) hg (argsL := argsL) (rest := rest) (hlen _ hsigM) hstack hdg
  obtain ⟨v, B, X', hpost, hsteps⟩ := hK m meth c ⟨T.setVm vm₁, locs, cells, slots⟩ { g with stack := rest } (.invokestatic index) mk argsL.toArray X₁ hg hsize hdg hW (X₁.named hnamed) (hpre vm₁ X₁.warmed)
  exact ⟨v, vm₁, B, X₁.warmed, X', hpost, fun target h => hstep₁ _ fun acts => by rw [doInvoke_state]; exact hsteps.trans h⟩
theorem vx_runSW {y : MethodName} {bytes cc : ByteArray} {maxL nL mc ms n index : Nat} {ret : Option FieldType} {hh : List (Nat × Nat × Nat × Nat)} {ws : List Cond} {rm : Room} {Pc : Array Value → State → Prop} {Qc : Array Value → State → Outcome → State → Prop} {free : Addr → Prop} {Ts : List Cond} {own : String} {As rest : List Value} {g : JFrame}
    (S : CallFix p m c cc nL s args Ts own) (hM : Met l y ws rm Pc Qc mc ms free) (cw : vx_CSW R s args own index y bytes maxL ret hh ws rm mc ms n) (hp : PreS s H Pc As)
    (hg : g.method = m) (hn : As.length = n) (hsize : g.locals.size = nL) (hstack : g.stack = As.reverse ++ rest) (hW : 2 * g.monitorRoom + (rest.map fun v => v.category).sum ≤ 8) (hdg : decode cc g.pc = .ok (.invokestatic index, 3)) (hf : cells + mc ≤ R.cells ∧ slots + ms ≤ R.slots) :
    va_Run p l e R s m args below meth c H locs cells slots mc ms g rest (Qc As.toArray) (free) := by
  obtain ⟨⟨hrc, hrs, hfr, hlo, hws, hcw⟩, hcode, hini, hy, hlen, hl, hstt⟩ := cw
  have hK : Back l R p e below s args y 3 8 (PreOf R mc ms Pc) (PostOf Qc mc ms free) := va_backW (hh := hh) (bytes := bytes) (maxL := maxL) (ret := ret) hM hp.1 hrc hrs hfr hlo hws hcw (fun a' U hW => word_at hW (Or.inl (by first | rfl | simp [Cond.onTables, Cond.keeps, Cond.steady])) hini)
  obtain ⟨hx, hb, hml, ho, -⟩ := S
  intro T hT X
  obtain ⟨v, vm₁, ⟨U', l2, c2, s2⟩, hW₁, X', ⟨g', mk, t, L, e1, e2, hq, h1, hL, h2, h3⟩, st⟩ := vx_callSW X hx (hh := hh) (bytes := bytes) (maxL := maxL) (ret := ret) ho hl hstt hini hcode hy hK hg (hsize.trans hml.symm) (argsL := As) (rest := rest) (fun sig h => hn.trans (hlen sig h)) hstack hW (by rw [hb]; exact hdg)
    (fun vm₁ hW₁ => ⟨hf.1, hf.2, hp.2 (T.setVm vm₁) hT hW₁⟩)
  dsimp only [Pt.U, Pt.locs, Pt.cells, Pt.slots] at X' e1 e2 h1 h2 h3 st
  subst h1; subst h2; subst h3
  exact ⟨v, (T.setVm vm₁).calling g' mk As.toArray, t, U', L, hT, X', hL, e1, e2, hq, st⟩
/-- not caught here, past rows that name other classes: it goes on to the caller -/
theorem vx_outP {p : Program} {l : Launch} {e : Env} {R : Room} {s : State} {m : MethodId} {args : Array Value} {below : List Frame} {meth : Method} {c : Code} {H : Heap} {locs : List Loc} {cells slots : Nat} {free : Addr → Prop} {ls : Array Slot} {rest : List Value} {Qc : Array Value → State → Outcome → State → Prop} {XC : String → State → State → Prop}
    {pc : Nat} {own E : String} {ce : Cell} {q : Addr} {mc ms : Nat} (hown : s.vm.findClass own = some m.cls) (hlocks : meth.locks = false)
    (hpass : ∀ z ∈ c.exceptionTable.toList, covers z pc = false ∨ (z.catchType ≠ 0 ∧ ∃ nm : String, (Cond.classLink own z.catchType nm).before args s = true ∧ va_Nc E nm s)) (hcell : H[q]? = some ce) (hv : ce.vm = .none) (hcl : s.vm.findClass E = some ce.cls)
    (hx : ∀ t : State, t.heap = H → s.vm.Alike t.vm → XC E s t) (hf : ∀ z ∈ locs, free z.base) (hc : cells ≤ mc) (hs : slots ≤ ms) :
    vx_W p l e R s m args below meth c H locs cells slots (vx_MQ below Qc XC args s mc ms free) (F0 m pc ls rest) q := by
  intro T hT X
  have hpl : e.platform.magicAccessors = ({} : Platform).magicAccessors := by rw [X.admits.platform]
  obtain ⟨vm', hW', X', st⟩ := X.outThrough hlocks q (g := F0 m pc ls rest) rfl rfl rfl (cell := ce) (by rw [hT]; exact hcell) (by rw [hv]; rfl)
    (by obtain ⟨k9, h9, -⟩ := Vm.findClass_spec hcl; exact ⟨k9, h9⟩) (fun z hz => by
      rcases hpass z hz with h | ⟨hz0, nm, hl1, hn1⟩
      · exact Or.inl h
      · obtain ⟨c6, hc6, hcl6⟩ := Cond.classLink_spec hown hl1 e.platform hpl
        obtain ⟨a8, b8, h1, h2, h3⟩ := hn1
        cases Option.some.inj (h1.symm.trans hcl)
        cases Option.some.inj (h2.symm.trans hc6)
        exact Or.inr ⟨hz0, _, hcl6, h3⟩)
  obtain ⟨g₀, hfr⟩ := X'.frames_eq
  have hcell9 : ((T.setVm vm').setFrames (.throwing q :: below)).heap[q]? = some ce := by
    show T.heap[q]? = some ce
    rw [hT]; exact hcell
  have hend : Ended ((T.setVm vm').setFrames (.throwing q :: below)) below (.threw q) := State.frames_setFrames _ (State.cur_lt_of_frames hfr)
  refine ⟨(T.setVm vm').setFrames (.throwing q :: below), ?_, .threw q, X'.here.running, hend, Or.inr ⟨q, rfl, E, ce, locs, hx _ hT (X'.ends _).1.alike, hcell9, hv, hcl, (X'.ends _).1, (X'.ends _).2.mono hc hs, hf⟩⟩
  rw [X.pushThrowing_eq]
  exact st
/-- a thing of a world lies in the heap -/
theorem vx_lt {D : va_G} {cl : List vw_C} {ws : va_W} {H1 : Heap} (h : va_P D cl ws H1) {k : Nat} {q : Nat × va_E} (hk : ws[k]? = some q) : q.1 < H1.size := (h k q hk).lt
end VXS
/-! ===== END ===== -/
/-! ===== BEGIN methods with a table of their own: called by a name, returning or throwing ===== -/
section VXH
/-! vx_backW, vx_callVX, vx_callSX, vx_callVW, vx_runVW, vx_runVX, vx_runSX, vx_ofWH follow the same proofs as their sisters above (Free/Laws.lean, Shelf42/LK1.lean); vx_outP calls Shelf42/NT130.lean (outThrough). -/
section
variable {l : Launch} {R : Room} {p : Program} {e : Env} {below : List Frame} {s : State} {sargs : Array Value} {y : MethodName} {len W9 : Nat}
theorem vx_backW {ws : List Cond} {rm : Room} {Pc : Array Value → State → Prop} {Qc : Array Value → State → Outcome → State → Prop} {XC : String → State → State → Prop} {mc ms : Nat} {free : Addr → Prop} {bytes : ByteArray} {maxL : Nat} {ret : Option FieldType} {hh : List (Nat × Nat × Nat × Nat)}
    (hM : vx_Met l y ws rm Pc Qc XC mc ms free) (hblind : FrameBlind Pc) (hrc : rm.cells = mc) (hrs : rm.slots = ms)
    (hframes : rm.frames + 1 ≤ R.frames) (hlocals : W9 + (maxL + 11) + rm.locals ≤ R.locals)
    (hws : ∀ w ∈ ws, ∀ a' U, s.WarmedH U.vm → w.before a' U = true) (hcode : Cond.codeWith y bytes maxL ret hh ∈ ws) (hinit : ∀ a' U, s.WarmedH U.vm → (Cond.initialized y.cls).before a' U = true) :
    vx_Back l R p e below s sargs y len W9 (PreOf R mc ms Pc) (PostOf Qc mc ms free) (vx_Post XC mc ms free) := by
  intro m meth c A g ig mk a X hg hsize hdg hW hn hp
  have h1 : (headSpec ws rm).pre.before a A.U = true := atoms_intro fun w hw => hws w hw _ _ X.warmed
  have h2 : (Cond.codeWith y bytes maxL ret hh).before a A.U = true := hws _ hcode _ _ X.warmed
  have h3 : (Cond.initialized y.cls).before a A.U = true := hinit _ _ X.warmed
  have h4 : A.cells + (headSpec ws rm).room.cells ≤ R.cells := by rw [show (headSpec ws rm).room.cells = mc from hrc]; exact hp.1
  have h5 : A.slots + (headSpec ws rm).room.slots ≤ R.slots := by rw [show (headSpec ws rm).room.slots = ms from hrs]; exact hp.2.1
  have hPc : Pc a (A.U.calling g mk a) := hblind _ _ _ _ hp.2.2
  obtain ⟨U, Ls, c0, s0⟩ := A
  dsimp only [Pt.U, Pt.locs, Pt.cells, Pt.slots] at h1 h2 h3 h4 h5 X hn hPc ⊢
  obtain ⟨m9, methY, cY, hn9, hmY, hcY, -, hlY, -⟩ := Cond.codeWith_spec h2
  cases Option.some.inj (hn9.symm.trans hn)
  obtain ⟨kY, hkY, -⟩ := className_of_methodNamed hn
  have hinitY : kY.init = .initialized := Cond.initialized_spec (findClass_of_methodNamed hn) hkY h3
  have h : At U g.method c below := by rw [hg]; exact X.here
  have hlocals9 : W9 + (maxL + 11) + (headSpec ws rm).room.locals ≤ R.locals := hlocals
  have happ : (headSpec ws rm).appliesLoose y e.platform (U.calling g mk a) = true :=
    Spec.appliesLoose_calling (g := g) h hdg hn hkY hinitY
      (X.room_calling (g := g) (R' := (headSpec ws rm).room) hsize hmY hcY hframes (by rw [hlY]; omega) h4 h5) h1
  obtain ⟨mid, hmid⟩ := h.above
  have hfr : (U.setTop g).frames = (.java g :: mid) ++ below := by rw [State.frames_setTop' g h.top, hmid]; rfl
  obtain ⟨o, s₂, hsteps, -, hend, hq⟩ := Steps.callFree hM p X.admits X.cas X.clock (acts := []) hfr happ hPc trivial
  have hq' : vx_Q Qc XC mc ms free a (U.calling g mk a) o s₂ := hq
  rw [State.frames_setTop' g h.top] at hend
  obtain ⟨g₀, hg0⟩ := Option.isSome_iff_exists.mp h.top
  obtain ⟨r, hr⟩ := State.topJava?_eq_some.mp hg0
  have hr' : (({ U with heap := s₂.heap, slotsUsed := s₂.slotsUsed } : State).setVm s₂.vm).frames = .java g₀ :: r := hr
  rcases hq' with ⟨hqc, L, hfe, hL⟩ | ⟨q, rfl, E, ce, L, hx, hce, hcv, hcl, hW₂, hsm, hL⟩
  · obtain ⟨⟨v, rfl⟩, hW₂, e2, q2, q3, q4, q5, q6⟩ := id hfe
    have e3 : s₂ = ({ (U.calling g mk a).setFrames s₂.frames with heap := s₂.heap, slotsUsed := s₂.slotsUsed } : State).setVm s₂.vm := by
      have : s₂ = ({ s₂ with vm := (U.calling g mk a).vm } : State).setVm s₂.vm := rfl
      rw [e2] at this
      exact this
    obtain ⟨c₂, i₂, len₂, hc₂, hd₂, hf₂⟩ := hend
    have hW' : U.WarmedH s₂.vm := hW₂
    have hcc : c₂ = c := by
      have h1 : s₂.code? g.method = U.code? g.method := by
        rw [State.code?_eq, State.code?_eq, hW'.alike.method?]
      exact Option.some.inj (hc₂.symm.trans (h1.trans h.code))
    subst hcc
    have hlen : len₂ = len := by rw [hdg] at hd₂; cases hd₂; rfl
    subst hlen
    have hs₂ : s₂ = (({ U with heap := s₂.heap, slotsUsed := s₂.slotsUsed } : State).setVm s₂.vm).setTop { g with pc := g.pc + len₂, stack := v.toList ++ g.stack } := by
      refine e3.trans ?_
      rw [hf₂, State.calling_eq h.top, State.setFrames_setFrames, State.setTop_of_frames _ hr', hr]
      rfl
    have hsame : U.sameButNew ({ U with heap := s₂.heap, slotsUsed := s₂.slotsUsed } : State) L mc ms := by
      refine ⟨?_, q2, q3, q4, q5, q6⟩
      obtain ⟨t, ht, -⟩ := State.frames_cons hr
      show ({ U with heap := s₂.heap, slotsUsed := s₂.slotsUsed } : State) = { U.setFrames U.frames with heap := s₂.heap, slotsUsed := s₂.slotsUsed }
      rw [State.setFrames_self ht]
    subst hg
    refine Or.inl ⟨v, ⟨(({ U with heap := s₂.heap, slotsUsed := s₂.slotsUsed } : State).setVm s₂.vm), Ls ++ L, c0 + mc, s0 + ms⟩,
      ⟨X.admits, X.cas, X.clock, X.frames, X.room, X.hears, X.method, X.code, (X.here.setHeapUsed s₂.heap s₂.slotsUsed).setVm hW'.alike, X.tail, State.WarmedH.trans X.warmed hW', X.limits, X.bytes, X.same.trans (hsame.setVm s.vm)⟩,
      ⟨g, mk, s₂, L, rfl, rfl, hqc, rfl, hL, rfl, rfl⟩, ?_⟩
    show Steps p.tables e below _ ((({ U with heap := s₂.heap, slotsUsed := s₂.slotsUsed } : State).setVm s₂.vm).setTop { g with pc := g.pc + len₂, stack := v.toList ++ g.stack })
    rw [← hs₂]
    exact hsteps
  · obtain ⟨e2, q2, q3, q4, q5, q6⟩ := id hsm
    have e3 : s₂ = ({ (U.calling g mk a).setFrames s₂.frames with heap := s₂.heap, slotsUsed := s₂.slotsUsed } : State).setVm s₂.vm := by
      have : s₂ = ({ s₂ with vm := (U.calling g mk a).vm } : State).setVm s₂.vm := rfl
      rw [e2] at this
      exact this
    have hf₂ : s₂.frames = .throwing q :: .java g :: U.frames.tail := hend
    have hW' : U.WarmedH s₂.vm := hW₂
    have hs₂ : s₂ = ((({ U with heap := s₂.heap, slotsUsed := s₂.slotsUsed } : State).setVm s₂.vm).setTop g).pushFrame (.throwing q) := by
      refine e3.trans ?_
      rw [hf₂, State.calling_eq h.top, State.setFrames_setFrames, State.pushFrame, State.frames_setTop _ hr', State.setTop_of_frames _ hr', State.setFrames_setFrames, hr]
      rfl
    have hsame : U.sameButNew ({ U with heap := s₂.heap, slotsUsed := s₂.slotsUsed } : State) L mc ms := by
      refine ⟨?_, q2, q3, q4, q5, q6⟩
      obtain ⟨t, ht, -⟩ := State.frames_cons hr
      show ({ U with heap := s₂.heap, slotsUsed := s₂.slotsUsed } : State) = { U.setFrames U.frames with heap := s₂.heap, slotsUsed := s₂.slotsUsed }
      rw [State.setFrames_self ht]
    subst hg
    refine Or.inr ⟨q, ⟨(({ U with heap := s₂.heap, slotsUsed := s₂.slotsUsed } : State).setVm s₂.vm), Ls ++ L, c0 + mc, s0 + ms⟩,
      ⟨X.admits, X.cas, X.clock, X.frames, X.room, X.hears, X.method, X.code, (X.here.setHeapUsed s₂.heap s₂.slotsUsed).setVm hW'.alike, X.tail, State.WarmedH.trans X.warmed hW', X.limits, X.bytes, X.same.trans (hsame.setVm s.vm)⟩,
      ⟨g, mk, s₂, L, E, ce, rfl, rfl, hx, hce, hcv, hcl, rfl, hL, rfl, rfl⟩, ?_⟩
    show Steps p.tables e below _ (((({ U with heap := s₂.heap, slotsUsed := s₂.slotsUsed } : State).setVm s₂.vm).setTop g).pushFrame (.throwing q))
    rw [← hs₂]
    exact hsteps
end
variable {p : Program} {l : Launch} {e : Env} {R : Room} {s : State} {m : MethodId} {args : Array Value} {below : List Frame} {meth : Method} {c : Code} {T : State} {H : Heap} {locs : List Loc} {cells slots : Nat}
theorem vx_callVX (X : Stand p l e R s m args below meth c T locs cells slots) (hexec : p.tables.exec = Jvm.exec) {own C : String} {index : Nat} {y : MethodName} {bytes : ByteArray} {maxL : Nat} {ret : Option FieldType} {hh : List (Nat × Nat × Nat × Nat)}
    (hown : s.vm.findClass own = some m.cls) (hlink : (Cond.methodLink own index y).before args s = true) (hinst : (Cond.instanceMethod y).before args s = true) (hsel : (Cond.selects C y y).before args s = true)
    (hcode : (Cond.codeWith y bytes maxL ret hh).before args s = true) (hy : y.cls ≠ "java/lang/invoke/MethodHandle" ∧ y.cls ≠ "java/lang/invoke/VarHandle")
    {W9 : Nat} {Pre : Pt → Array Value → Prop} {Post : Pt → Array Value → Option Value → Pt → Prop} {PostX : Pt → Array Value → Addr → Pt → Prop} (hK : vx_Back l R p e below s args y 3 W9 Pre Post PostX)
    {b : Addr} {cellB : Cell} (hcell : T.heap[b]? = some cellB) (hobj : cellB.vm.isStatics = false) (hcls : s.vm.findClass C = some cellB.cls)
    {g : JFrame} (hg : g.method = m) (hsize : g.locals.size = c.maxLocals) {argsL rest : List Value} (hlen : ∀ sig, parseMethodDescriptor y.desc = some sig → argsL.length = sig.parameters.length)
    (hstack : g.stack = argsL.reverse ++ .ref b :: rest) (hW : 2 * g.monitorRoom + (rest.map fun v => v.category).sum ≤ W9) (hdg : decode c.code g.pc = .ok (.invokevirtual index, 3))
    (hpre : ∀ vm₁, s.WarmedH vm₁ → Pre ⟨T.setVm vm₁, locs, cells, slots⟩ (Value.ref b :: argsL).toArray) :
    (∃ (v : Option Value) (vm₁ : Vm) (B : Pt), s.WarmedH vm₁ ∧ Stand p l e R s m args below meth c B.U B.locs B.cells B.slots ∧ Post ⟨T.setVm vm₁, locs, cells, slots⟩ (Value.ref b :: argsL).toArray v B ∧
      ∀ target, Steps p.tables e below (B.U.setTop { g with pc := g.pc + 3, stack := v.toList ++ rest }) target → Steps p.tables e below (T.setTop g) target) ∨
    (∃ (q : Addr) (vm₁ : Vm) (B : Pt), s.WarmedH vm₁ ∧ Stand p l e R s m args below meth c B.U B.locs B.cells B.slots ∧ PostX ⟨T.setVm vm₁, locs, cells, slots⟩ (Value.ref b :: argsL).toArray q B ∧
      Steps p.tables e below (T.setTop g) ((B.U.setTop { g with stack := rest }).pushFrame (.throwing q))) := by
  obtain ⟨mk, methM, hnamed, hmethM, hstM, habM⟩ := Cond.instanceMethod_spec hinst
  obtain ⟨m8, methM', cM, hn8, hmethM', -, -, -, -, -, -, hsigM⟩ := Cond.codeWith_spec hcode
  cases Option.some.inj (hn8.symm.trans hnamed)
  cases hmethM.symm.trans hmethM'
  obtain ⟨c2, r2, m2, q1, q2, q3, q4, kP, hkP, hkPi⟩ := Cond.selects_spec hsel
  cases hcls.symm.trans q1
  cases (State.methodFound?_of_named hnamed hy).symm.trans q2
  cases hnamed.symm.trans q3
  have hselP : selectMethod e.platform s.vm cellB.cls mk = .method mk := by rw [Launch.admits_selectMethod X.admits]; exact q4
  obtain ⟨vm₁, X₁, hstep₁⟩ := X.invokevirtual hexec hown hlink hnamed hmethM hstM hkP hkPi hy (a := b) (cell := cellB) hcell
    (fun z h => by rw [h] at hobj; cases hobj) hselP hmethM habM hkP hkPi (g := g) hg (argsL := argsL) (rest := rest) (hlen _ hsigM) hstack hdg
  rcases hK m meth c ⟨T.setVm vm₁, locs, cells, slots⟩ { g with stack := rest } (.invokevirtual index) mk (Value.ref b :: argsL).toArray X₁ hg hsize hdg hW (X₁.named hnamed) (hpre vm₁ X₁.warmed) with ⟨v, B, X', hpost, hsteps⟩ | ⟨q, B, X', hpost, hsteps⟩
  · exact Or.inl ⟨v, vm₁, B, X₁.warmed, X', hpost, fun target h => hstep₁ _ fun acts => by rw [doInvoke_state]; exact hsteps.trans h⟩
  · exact Or.inr ⟨q, vm₁, B, X₁.warmed, X', hpost, hstep₁ _ fun acts => by rw [doInvoke_state]; exact hsteps⟩
theorem vx_callSX (X : Stand p l e R s m args below meth c T locs cells slots) (hexec : p.tables.exec = Jvm.exec) {own : String} {index : Nat} {y : MethodName} {bytes : ByteArray} {maxL : Nat} {ret : Option FieldType} {hh : List (Nat × Nat × Nat × Nat)}
    (hown : s.vm.findClass own = some m.cls) (hlink : (Cond.methodLink own index y).before args s = true) (hstat : (Cond.static y).before args s = true) (hinit : (Cond.initialized y.cls).before args s = true)
    (hcode : (Cond.codeWith y bytes maxL ret hh).before args s = true) (hy : y.cls ≠ "java/lang/invoke/MethodHandle" ∧ y.cls ≠ "java/lang/invoke/VarHandle")
    {W9 : Nat} {Pre : Pt → Array Value → Prop} {Post : Pt → Array Value → Option Value → Pt → Prop} {PostX : Pt → Array Value → Addr → Pt → Prop} (hK : vx_Back l R p e below s args y 3 W9 Pre Post PostX)
    {g : JFrame} (hg : g.method = m) (hsize : g.locals.size = c.maxLocals) {argsL rest : List Value} (hlen : ∀ sig, parseMethodDescriptor y.desc = some sig → argsL.length = sig.parameters.length)
    (hstack : g.stack = argsL.reverse ++ rest) (hW : 2 * g.monitorRoom + (rest.map fun v => v.category).sum ≤ W9) (hdg : decode c.code g.pc = .ok (.invokestatic index, 3))
    (hpre : ∀ vm₁, s.WarmedH vm₁ → Pre ⟨T.setVm vm₁, locs, cells, slots⟩ argsL.toArray) :
    (∃ (v : Option Value) (vm₁ : Vm) (B : Pt), s.WarmedH vm₁ ∧ Stand p l e R s m args below meth c B.U B.locs B.cells B.slots ∧ Post ⟨T.setVm vm₁, locs, cells, slots⟩ argsL.toArray v B ∧
      ∀ target, Steps p.tables e below (B.U.setTop { g with pc := g.pc + 3, stack := v.toList ++ rest }) target → Steps p.tables e below (T.setTop g) target) ∨
    (∃ (q : Addr) (vm₁ : Vm) (B : Pt), s.WarmedH vm₁ ∧ Stand p l e R s m args below meth c B.U B.locs B.cells B.slots ∧ PostX ⟨T.setVm vm₁, locs, cells, slots⟩ argsL.toArray q B ∧
      Steps p.tables e below (T.setTop g) ((B.U.setTop { g with stack := rest }).pushFrame (.throwing q))) := by
  obtain ⟨mk, methM, cM, hnamed, hmethM, -, -, -, -, -, -, hsigM⟩ := Cond.codeWith_spec hcode
  have hstatic : methM.isStatic = true := Cond.static_spec hnamed hmethM hstat
  obtain ⟨kP, hkP, -⟩ := className_of_methodNamed hnamed
  have hinitP : kP.init = .initialized := Cond.initialized_spec (findClass_of_methodNamed hnamed) hkP hinit
  obtain ⟨vm₁, X₁, hstep₁⟩ := X.invokestatic hexec hown hlink hnamed hmethM hstatic hkP hinitP hy (g := g) hg (argsL := argsL) (rest := rest) (hlen _ hsigM) hstack hdg
  rcases hK m meth c ⟨T.setVm vm₁, locs, cells, slots⟩ { g with stack := rest } (.invokestatic index) mk argsL.toArray X₁ hg hsize hdg hW (X₁.named hnamed) (hpre vm₁ X₁.warmed) with ⟨v, B, X', hpost, hsteps⟩ | ⟨q, B, X', hpost, hsteps⟩
  · exact Or.inl ⟨v, vm₁, B, X₁.warmed, X', hpost, fun target h => hstep₁ _ fun acts => by rw [doInvoke_state]; exact hsteps.trans h⟩
  · exact Or.inr ⟨q, vm₁, B, X₁.warmed, X', hpost, hstep₁ _ fun acts => by rw [doInvoke_state]; exact hsteps⟩
theorem vx_callVW (X : Stand p l e R s m args below meth c T locs cells slots) (hexec : p.tables.exec = Jvm.exec) {own C : String} {index : Nat} {y : MethodName} {bytes : ByteArray} {maxL : Nat} {ret : Option FieldType} {hh : List (Nat × Nat × Nat × Nat)}
    (hown : s.vm.findClass own = some m.cls) (hlink : (Cond.methodLink own index y).before args s = true) (hinst : (Cond.instanceMethod y).before args s = true) (hsel : (Cond.selects C y y).before args s = true)
    (hcode : (Cond.codeWith y bytes maxL ret hh).before args s = true) (hy : y.cls ≠ "java/lang/invoke/MethodHandle" ∧ y.cls ≠ "java/lang/invoke/VarHandle")
    {W9 : Nat} {Pre : Pt → Array Value → Prop} {Post : Pt → Array Value → Option Value → Pt → Prop} (hK : Back l R p e below s args y 3 W9 Pre Post)
    {b : Addr} {cellB : Cell} (hcell : T.heap[b]? = some cellB) (hobj : cellB.vm.isStatics = false) (hcls : s.vm.findClass C = some cellB.cls)
    {g : JFrame} (hg : g.method = m) (hsize : g.locals.size = c.maxLocals) {argsL rest : List Value} (hlen : ∀ sig, parseMethodDescriptor y.desc = some sig → argsL.length = sig.parameters.length)
    (hstack : g.stack = argsL.reverse ++ .ref b :: rest) (hW : 2 * g.monitorRoom + (rest.map fun v => v.category).sum ≤ W9) (hdg : decode c.code g.pc = .ok (.invokevirtual index, 3))
    (hpre : ∀ vm₁, s.WarmedH vm₁ → Pre ⟨T.setVm vm₁, locs, cells, slots⟩ (Value.ref b :: argsL).toArray) :
    ∃ (v : Option Value) (vm₁ : Vm) (B : Pt), s.WarmedH vm₁ ∧ Stand p l e R s m args below meth c B.U B.locs B.cells B.slots ∧ Post ⟨T.setVm vm₁, locs, cells, slots⟩ (Value.ref b :: argsL).toArray v B ∧
      ∀ target, Steps p.tables e below (B.U.setTop { g with pc := g.pc + 3, stack := v.toList ++ rest }) target → Steps p.tables e below (T.setTop g) target := by
  obtain ⟨mk, methM, hnamed, hmethM, hstM, habM⟩ := Cond.instanceMethod_spec hinst
  obtain ⟨m8, methM', cM, hn8, hmethM', -, -, -, -, -, -, hsigM⟩ := Cond.codeWith_spec hcode
  cases Option.some.inj (hn8.symm.trans hnamed)
  cases hmethM.symm.trans hmethM'
  obtain ⟨c2, r2, m2, q1, q2, q3, q4, kP, hkP, hkPi⟩ := Cond.selects_spec hsel
  cases hcls.symm.trans q1
  cases (State.methodFound?_of_named hnamed hy).symm.trans q2
  cases hnamed.symm.trans q3
  have hselP : selectMethod e.platform s.vm cellB.cls mk = .method mk := by rw [Launch.admits_selectMethod X.admits]; exact q4
  obtain ⟨vm₁, X₁, hstep₁⟩ := X.invokevirtual hexec hown hlink hnamed hmethM hstM hkP hkPi hy (a := b) (cell := cellB) hcell
    (fun z h => by rw [h] at hobj; cases hobj) hselP hmethM habM hkP hkPi (g := g) hg (argsL := argsL) (rest := rest) (hlen _ hsigM) hstack hdg
  obtain ⟨v, B, X', hpost, hsteps⟩ := hK m meth c ⟨T.setVm vm₁, locs, cells, slots⟩ { g with stack := rest } (.invokevirtual index) mk (Value.ref b :: argsL).toArray X₁ hg hsize hdg hW (X₁.named hnamed) (hpre vm₁ X₁.warmed)
  exact ⟨v, vm₁, B, X₁.warmed, X', hpost, fun target h => hstep₁ _ fun acts => by rw [doInvoke_state]; exact hsteps.trans h⟩
abbrev vx_CVW (R : Room) (s : State) (args : Array Value) (own C : String) (index : Nat) (y : MethodName) (bytes : ByteArray) (maxL : Nat) (ret : Option FieldType) (hh : List (Nat × Nat × Nat × Nat)) (ws : List Cond) (rm : Room) (mc ms n : Nat) : Prop :=
  (rm.cells = mc ∧ rm.slots = ms ∧ rm.frames + 1 ≤ R.frames ∧ 8 + (maxL + 11) + rm.locals ≤ R.locals ∧ (∀ w ∈ ws, ∀ (a' : Array Value) (U : State), s.WarmedH U.vm → w.before a' U = true) ∧ Cond.codeWith y bytes maxL ret hh ∈ ws) ∧
  (Cond.codeWith y bytes maxL ret hh).before args s = true ∧ (Cond.initialized y.cls).before args s = true ∧ (y.cls ≠ "java/lang/invoke/MethodHandle" ∧ y.cls ≠ "java/lang/invoke/VarHandle") ∧
  (∀ sig, parseMethodDescriptor y.desc = some sig → n = sig.parameters.length) ∧ (Cond.methodLink own index y).before args s = true ∧ (Cond.instanceMethod y).before args s = true ∧ (Cond.selects C y y).before args s = true
theorem vx_cwVW {own C : String} {index maxL mc ms : Nat} {y : MethodName} {bytes : ByteArray} {ret : Option FieldType} {hh : List (Nat × Nat × Nat × Nat)} {Ts ws ws' : List Cond} {rm : Room} (n : Nat) (ht : ∀ w ∈ Ts, w.before args s = true) (hT : GoodIn Ts (wsV own index C y ws)) (hw : ws = Cond.codeWith y bytes maxL ret hh :: ws') (hrc : rm.cells = mc) (hrs : rm.slots = ms)
    (hd : y.cls = C ∧ y.cls ≠ "java/lang/invoke/MethodHandle" ∧ y.cls ≠ "java/lang/invoke/VarHandle" ∧ (parseMethodDescriptor y.desc).map (fun d => d.parameters.length) = some n) (hR : rm.frames + 1 ≤ R.frames ∧ 8 + (maxL + 11) + rm.locals ≤ R.locals) :
    vx_CVW R s args own C index y bytes maxL ret hh ws rm mc ms n := by
  obtain ⟨hC, hd⟩ := hd
  subst hC
  have ok : ∀ w ∈ wsV own index y.cls y ws, w.before args s = true := fun w h => ht w (hT w h).1
  have hG : GoodIn Ts ws := fun w h => hT w (by unfold wsV; exact List.mem_append_right _ h)
  have hc : Cond.codeWith y bytes maxL ret hh ∈ ws := by rw [hw]; exact List.mem_cons_self
  refine ⟨⟨hrc, hrs, hR.1, hR.2, pay_in ht hG, hc⟩, ht _ (hG _ hc).1, ok _ (by simp [wsV]), ⟨hd.1, hd.2.1⟩, fun sig h => ?_, ok _ (by simp [wsV]), ok _ (by simp [wsV]), ok _ (by simp [wsV])⟩
  have h2 := hd.2.2
  rw [h] at h2
  exact (Option.some.inj h2).symm
theorem vx_runVW {y : MethodName} {bytes cc : ByteArray} {maxL nL mc ms n index : Nat} {ret : Option FieldType} {hh : List (Nat × Nat × Nat × Nat)} {ws : List Cond} {rm : Room} {Pc : Array Value → State → Prop} {Qc : Array Value → State → Outcome → State → Prop} {free : Addr → Prop} {Ts : List Cond} {own C : String} {b : Addr} {As rest : List Value} {g : JFrame}
    (S : CallFix p m c cc nL s args Ts own) (hM : Met l y ws rm Pc Qc mc ms free) (cw : vx_CVW R s args own C index y bytes maxL ret hh ws rm mc ms n) (hp : PreV s H C b Pc As)
    (hg : g.method = m) (hn : As.length = n) (hsize : g.locals.size = nL) (hstack : g.stack = As.reverse ++ .ref b :: rest) (hW : 2 * g.monitorRoom + (rest.map fun v => v.category).sum ≤ 8) (hdg : decode cc g.pc = .ok (.invokevirtual index, 3)) (hf : cells + mc ≤ R.cells ∧ slots + ms ≤ R.slots) :
    va_Run p l e R s m args below meth c H locs cells slots mc ms g rest (Qc (Value.ref b :: As).toArray) free := by
  obtain ⟨⟨hrc, hrs, hfr, hlo, hws, hcw⟩, hcode, hini, hy, hlen, hl, hin, hse⟩ := cw
  have hK : Back l R p e below s args y 3 8 (PreOf R mc ms Pc) (PostOf Qc mc ms free) := va_backW (hh := hh) (bytes := bytes) (maxL := maxL) (ret := ret) hM hp.1 hrc hrs hfr hlo hws hcw (fun a' U hW => word_at hW (Or.inl (by first | rfl | simp [Cond.onTables, Cond.keeps, Cond.steady])) hini)
  obtain ⟨hx, hb, hml, ho, -⟩ := S
  obtain ⟨-, ⟨cellB, hcB, hoB, hclB⟩, hPc⟩ := hp
  intro T hT X
  obtain ⟨v, vm₁, ⟨U', l2, c2, s2⟩, hW₁, X', ⟨g', mk, t, L, e1, e2, hq, h1, hL, h2, h3⟩, st⟩ := vx_callVW X hx (C := C) (hh := hh) (bytes := bytes) (maxL := maxL) (ret := ret) ho hl hin hse hcode hy hK (by rw [hT]; exact hcB) hoB hclB hg (hsize.trans hml.symm) (argsL := As) (rest := rest) (fun sig h => hn.trans (hlen sig h)) hstack hW (by rw [hb]; exact hdg)
    (fun vm₁ hW₁ => ⟨hf.1, hf.2, hPc (T.setVm vm₁) hT hW₁⟩)
  dsimp only [Pt.U, Pt.locs, Pt.cells, Pt.slots] at X' e1 e2 h1 h2 h3 st
  subst h1; subst h2; subst h3
  exact ⟨v, (T.setVm vm₁).calling g' mk (Value.ref b :: As).toArray, t, U', L, hT, X', hL, e1, e2, hq, st⟩
section
variable {y : MethodName} {bytes cc : ByteArray} {maxL nL mc ms n index : Nat} {ret : Option FieldType} {ws : List Cond} {rm : Room} {Pc : Array Value → State → Prop} {Qc : Array Value → State → Outcome → State → Prop} {XC : String → State → State → Prop} {free : Addr → Prop} {Ts : List Cond} {own C : String} {b : Addr} {As rest : List Value} {g : JFrame}
theorem vx_runVX {hh : List (Nat × Nat × Nat × Nat)} (S : CallFix p m c cc nL s args Ts own) (hM : vx_Met l y ws rm Pc Qc XC mc ms free) (cw : vx_CVW R s args own C index y bytes maxL ret hh ws rm mc ms n) (hp : PreV s H C b Pc As)
    (hg : g.method = m) (hn : As.length = n) (hsize : g.locals.size = nL) (hstack : g.stack = As.reverse ++ .ref b :: rest) (hW : 2 * g.monitorRoom + (rest.map fun v => v.category).sum ≤ 8) (hdg : decode cc g.pc = .ok (.invokevirtual index, 3)) (hf : cells + mc ≤ R.cells ∧ slots + ms ≤ R.slots) :
    vx_Run p l e R s m args below meth c H locs cells slots mc ms g rest (Qc (Value.ref b :: As).toArray) XC free := by
  obtain ⟨⟨hrc, hrs, hfr, hlo, hws, hcw⟩, hcode, hini, hy, hlen, hl, hin, hse⟩ := cw
  have hK : vx_Back l R p e below s args y 3 8 (PreOf R mc ms Pc) (PostOf Qc mc ms free) (vx_Post XC mc ms free) := vx_backW (hh := hh) (bytes := bytes) (maxL := maxL) (ret := ret) hM hp.1 hrc hrs hfr hlo hws hcw (fun a' U hW => word_at hW (Or.inl (by first | rfl | simp [Cond.onTables, Cond.keeps, Cond.steady])) hini)
  obtain ⟨hx, hb, hml, ho, -⟩ := S
  obtain ⟨-, ⟨cellB, hcB, hoB, hclB⟩, hPc⟩ := hp
  intro T hT X
  rcases vx_callVX X hx (C := C) (hh := hh) (bytes := bytes) (maxL := maxL) (ret := ret) ho hl hin hse hcode hy hK (by rw [hT]; exact hcB) hoB hclB hg (hsize.trans hml.symm) (argsL := As) (rest := rest) (fun sig h => hn.trans (hlen sig h)) hstack hW (by rw [hb]; exact hdg)
    (fun vm₁ hW₁ => ⟨hf.1, hf.2, hPc (T.setVm vm₁) hT hW₁⟩) with ⟨v, vm₁, ⟨U', l2, c2, s2⟩, hW₁, X', ⟨g', mk, t, L, e1, e2, hq, h1, hL, h2, h3⟩, st⟩ | ⟨q, vm₁, ⟨U', l2, c2, s2⟩, hW₁, X', ⟨g', mk, t, L, E, ce, e1, e2, hq, hce, hcv, hcl, h1, hL, h2, h3⟩, st⟩
  · dsimp only [Pt.U, Pt.locs, Pt.cells, Pt.slots] at X' e1 e2 h1 h2 h3 st
    subst h1; subst h2; subst h3
    exact Or.inl ⟨v, (T.setVm vm₁).calling g' mk (Value.ref b :: As).toArray, t, U', L, hT, X', hL, e1, e2, hq, st⟩
  · dsimp only [Pt.U, Pt.locs, Pt.cells, Pt.slots] at X' e1 e2 h1 h2 h3 st hcl
    subst h1; subst h2; subst h3
    exact Or.inr ⟨q, (T.setVm vm₁).calling g' mk (Value.ref b :: As).toArray, t, U', L, E, ce, hT, X', hL, e1, e2, hq, hce, hcv, vx_cls hW₁ hcl, st⟩
theorem vx_runSX {hh : List (Nat × Nat × Nat × Nat)} (S : CallFix p m c cc nL s args Ts own) (hM : vx_Met l y ws rm Pc Qc XC mc ms free) (cw : vx_CSW R s args own index y bytes maxL ret hh ws rm mc ms n) (hp : PreS s H Pc As)
    (hg : g.method = m) (hn : As.length = n) (hsize : g.locals.size = nL) (hstack : g.stack = As.reverse ++ rest) (hW : 2 * g.monitorRoom + (rest.map fun v => v.category).sum ≤ 8) (hdg : decode cc g.pc = .ok (.invokestatic index, 3)) (hf : cells + mc ≤ R.cells ∧ slots + ms ≤ R.slots) :
    vx_Run p l e R s m args below meth c H locs cells slots mc ms g rest (Qc As.toArray) XC free := by
  obtain ⟨⟨hrc, hrs, hfr, hlo, hws, hcw⟩, hcode, hini, hy, hlen, hl, hstt⟩ := cw
  have hK : vx_Back l R p e below s args y 3 8 (PreOf R mc ms Pc) (PostOf Qc mc ms free) (vx_Post XC mc ms free) := vx_backW (hh := hh) (bytes := bytes) (maxL := maxL) (ret := ret) hM hp.1 hrc hrs hfr hlo hws hcw (fun a' U hW => word_at hW (Or.inl (by first | rfl | simp [Cond.onTables, Cond.keeps, Cond.steady])) hini)
  obtain ⟨hx, hb, hml, ho, -⟩ := S
  intro T hT X
  rcases vx_callSX X hx (hh := hh) (bytes := bytes) (maxL := maxL) (ret := ret) ho hl hstt hini hcode hy hK hg (hsize.trans hml.symm) (argsL := As) (rest := rest) (fun sig h => hn.trans (hlen sig h)) hstack hW (by rw [hb]; exact hdg)
    (fun vm₁ hW₁ => ⟨hf.1, hf.2, hp.2 (T.setVm vm₁) hT hW₁⟩) with ⟨v, vm₁, ⟨U', l2, c2, s2⟩, hW₁, X', ⟨g', mk, t, L, e1, e2, hq, h1, hL, h2, h3⟩, st⟩ | ⟨q, vm₁, ⟨U', l2, c2, s2⟩, hW₁, X', ⟨g', mk, t, L, E, ce, e1, e2, hq, hce, hcv, hcl, h1, hL, h2, h3⟩, st⟩
  · dsimp only [Pt.U, Pt.locs, Pt.cells, Pt.slots] at X' e1 e2 h1 h2 h3 st
    subst h1; subst h2; subst h3
    exact Or.inl ⟨v, (T.setVm vm₁).calling g' mk As.toArray, t, U', L, hT, X', hL, e1, e2, hq, st⟩
  · dsimp only [Pt.U, Pt.locs, Pt.cells, Pt.slots] at X' e1 e2 h1 h2 h3 st hcl
    subst h1; subst h2; subst h3
    exact Or.inr ⟨q, (T.setVm vm₁).calling g' mk As.toArray, t, U', L, E, ce, hT, X', hL, e1, e2, hq, hce, hcv, vx_cls hW₁ hcl, st⟩
end
end VXH
theorem vx_ofWH {l : Launch} {y : MethodName} {ws ws' : List Cond} {rm : Room} {Pc : Array Value → State → Prop} {Qc : Array Value → State → Outcome → State → Prop} {XC : String → State → State → Prop} {mc ms : Nat} {free : Addr → Prop} {cc : ByteArray} {maxL : Nat} {ret : Option FieldType} {hh : List (Nat × Nat × Nat × Nat)}
    (hy : plainName y.cls = true) (hw : ws = Cond.codeWith y cc maxL ret hh :: ws')
    (body : ∀ p e s m args below meth c s₁, BodyLoose p l y (headSpec ws rm) cc maxL ret e s m args below meth c s₁ → c.maxLocals = maxL → Pc args s →
      W p l e (headSpec ws rm).room s m args below meth c s.heap [] 0 0 (vx_MQ below Qc XC args s mc ms free) (entryFrame m args maxL)) : vx_Met l y ws rm Pc Qc XC mc ms free := by
  refine MetFree.of_bodyS (code := cc) (maxLocals := maxL) (ret := ret) hy ?_ ?_
  · intro args s m h hn
    obtain ⟨m9, meth, c, hn9, h1, h2, h3, h4, -, h5, h6, -⟩ := Cond.codeWith_spec (atoms_spec (ws := ws) h _ (by rw [hw]; exact List.mem_cons_self))
    cases hn.symm.trans hn9
    exact ⟨meth, c, h1, h2, h3, h4, h5, h6⟩
  · intro p e s m args below meth c s₁ B hml hP _
    have hh0 : s₁.heap = s.heap := by rw [B.state]; rfl
    obtain ⟨t, a1, o, b1, b2, b3⟩ := body p e s m args below meth c s₁ B hml hP s₁ hh0 (Stand.of_body B)
    exact ⟨t, o, a1, b1, b2, b3⟩
/-! ===== END ===== -/
/-! ===== BEGIN what the machine throws by itself, no traces kept ===== -/
section VXM
set_option maxHeartbeats 1000000 in
/-- the machine throws cls with the message text, no traces kept: from its note over the frame g to 'throwing' over the same frame (follows the proofs of Stand.vmThrowsMessage, Shelf/KitTracedVmS.lean, and Stand.throwsMessageColdBareV, StandMessageColdV.lean, without the step out of the frame) -/
theorem vx_vmAt {p : Program} {l : Launch} {e : Env} {R : Room} {s : State} {m₀ : MethodId} {args : Array Value} {below : List Frame} {meth : Method} {c : Code} {W : State} {locs : List Loc} {cells slots : Nat}
    (X : Stand p l e R s m₀ args below meth c W locs cells slots) (hexec : p.tables.exec = Jvm.exec) (htr : e.platform.stackTraces = false) {cls : String} {names : List String} {text : String}
    (hcls : Bundle.fit cls = true) (hnames : ∀ n ∈ names, Bundle.fit n = true) (hsoe : (cls == "java/lang/StackOverflowError") = false) (hoom : (cls == "java/lang/OutOfMemoryError") = false)
    (h : ∀ a ∈ Bundle.messageArmAtoms cls names, a.before args s = true)
    (hlocs : ∀ x ∈ locs, ∀ cell, s.heap[x.base]? = some cell → cell.vm.isStatics = false)
    (htext : (text == notModelled) = false) (hlimit : ¬ (stringBytes (stringToUtf16 text)).size > e.platform.arrayLengthLimit) (hheap : ¬ (stringBytes (stringToUtf16 text)).size * componentBytes .byte > e.platform.maxHeapBytes)
    {g : JFrame} (hg : g.method = m₀) (hsize : g.locals.size = c.maxLocals)
    (hRframes : names.length + 4 < R.frames) (hRlocals : 2 * g.monitorRoom + (g.stack.map fun v => v.category).sum + 10240 ≤ R.locals) (hshort : 13 * names.length + 55 ≤ 10240)
    (hRcells : cells + 3 ≤ R.cells) (hRslots : slots + ((stringBytes (stringToUtf16 text)).size + 4 + 6) ≤ R.slots) (hlocks : meth.locks = false) :
    ∃ (S : State) (q : Addr) (ce : Cell), (∀ target, Steps p.tables e below ((S.setTop g).pushFrame (.throwing q)) target → Steps p.tables e below ((W.setTop g).pushFrame (.throwNew cls (some text) none)) target) ∧
      Stand p l e R s m₀ args below meth c S locs (cells + 3) (slots + ((stringBytes (stringToUtf16 text)).size + 4 + 6)) ∧ S.heap[q]? = some ce ∧ s.vm.findClass cls = some ce.cls ∧ ce.vm = .none := by
  have howns : e.platform.frameOwnsMonitors = true := by rw [X.admits.platform]
  have hfin : e.platform.finalization = false := by rw [X.admits.platform]
  have hpl : e.platform.magicAccessors = ({} : Platform).magicAccessors := by rw [X.admits.platform]
  have a : ∀ x, x ∈ Bundle.messageArmAtoms cls names → x.holds args s none s [] = true := fun x hx => h x hx
  obtain ⟨T, Z0, L, -, Y⟩ := ThrowableC.of_atoms (args := args) howns hfin hpl (fun x hx => h x (by simp [Bundle.messageArmAtoms, hx]))
  obtain ⟨Z, M, LZ, LM, hnZ⟩ := Init0T.ofS_atoms (args := args) hpl L Y (fun x hx => h x (by simp [Bundle.messageArmAtoms, hx]))
  obtain ⟨P1, Ps, hlen, L1, hL, hP1m, hlink1, hlink⟩ := Bundle.chainS (args := args) hpl hnZ names cls hcls hnames (fun x hx => h x (by simp [Bundle.messageArmAtoms, hx]))
  obtain ⟨Zs, LZs, hn4, hfitv, hfitc⟩ := StringT.of_atoms (args := args) (fun x hx => h x (by simp [Bundle.messageArmAtoms, hx]))
  have hfound : s.vm.findClass cls = some P1.m.cls := findClass_of_methodNamed hP1m
  obtain ⟨c1, kX, hc1, hk, hord, -, -, hn6⟩ := Cond.instantiable_spec (a (.instantiable cls 6) (by simp [Bundle.messageArmAtoms]))
  cases Option.some.inj (hc1.symm.trans hfound)
  have hinit := Cond.initialized_spec hfound hk (a (.initialized cls) (by simp [Bundle.messageArmAtoms]))
  have hctor : kX.findMethod "<init>" "(Ljava/lang/String;)V" = some P1.m.idx := findMethod_of_methodNamed hP1m hk
  have hsel0 : selectMethod e.platform s.vm P1.m.cls T.fill0 = .method T.fill0 := by
    obtain ⟨c2, r2, m2, q1, q2, q3, q4, -⟩ := Cond.selects_spec (a (.selects cls Bundle.tFill0 Bundle.tFill0) (by simp [Bundle.messageArmAtoms]))
    cases Option.some.inj (q1.symm.trans hfound)
    cases Option.some.inj (q2.symm.trans (State.methodFound?_of_named Y.fill0 (by decide)))
    cases Option.some.inj (q3.symm.trans Y.fill0)
    rw [Launch.admits_selectMethod X.admits]; exact q4
  have hselF : selectMethod e.platform s.vm P1.m.cls T.fill = .method T.fill := by
    obtain ⟨c2, r2, m2, q1, q2, q3, q4, -⟩ := Cond.selects_spec (a (.selects cls Bundle.tFill Bundle.tFill) (by simp [Bundle.messageArmAtoms]))
    cases Option.some.inj (q1.symm.trans hfound)
    cases Option.some.inj (q2.symm.trans (State.methodFound?_of_named Y.fill (by decide)))
    cases Option.some.inj (q3.symm.trans Y.fill)
    rw [Launch.admits_selectMethod X.admits]; exact q4
  obtain ⟨cellS0, hcS0, hiss⟩ := Y.statics
  obtain ⟨u0, hu0⟩ := Cond.staticRefV Y.unassigned L.unassignedStatic L.statics hcS0 hiss (a (.isRef (.static Bundle.tN "UNASSIGNED_STACK" Bundle.steD)) (by simp [Bundle.messageArmAtoms]))
  obtain ⟨sen, hsen⟩ := Cond.staticRefV Y.sentinel L.sentinelStatic L.statics hcS0 hiss (a (.isRef (.static Bundle.tN "SUPPRESSED_SENTINEL" Bundle.listD)) (by simp [Bundle.messageArmAtoms]))
  obtain ⟨ci198, i198, fB, hk198, hg198, ha198, hsB, -, hnB, htB, hffB⟩ := Cond.ownField (t := .object "java/lang/Object") Y.found L.cls (by decide +kernel) (a (.fieldLink Bundle.tN 198 Bundle.tN "backtrace" "Ljava/lang/Object;") (by simp [Bundle.messageArmAtoms])) (a (.lays Bundle.tN Bundle.tN "backtrace" "Ljava/lang/Object;") (by simp [Bundle.messageArmAtoms])) e.platform hpl
  obtain ⟨cellS, hcS', heS, -, hkeep⟩ := X.same.2.2.2.2.2 T.aS cellS0 hcS0
  have hcellS : W.heap[T.aS]? = some cellS := hcS'
  have hout' : ∀ i, (⟨T.aS, i⟩ : Loc) ∉ locs := fun i hmem => by
    have := hlocs _ hmem cellS0 hcS0
    rw [hiss] at this; cases this
  have hknownS : cellS.vm ≠ .unknown := by
    rw [heS]; intro hu
    rw [show cellS0.vm = .unknown from hu] at hiss
    cases hiss
  have hvU : cellS.slots[T.fUnassigned.slot]? = some u0.v := by rw [hkeep _ (hout' _)]; exact hu0
  have hvSen : cellS.slots[T.fSentinel.slot]? = some sen.v := by rw [hkeep _ (hout' _)]; exact hsen
  obtain ⟨iM, hffM⟩ := Y.msg
  obtain ⟨tyC, dC, hdC, hdnC⟩ := Cond.laysAt hfound hk Y.cause (a (.lays cls Bundle.tN "cause" "Ljava/lang/Throwable;") (by simp [Bundle.messageArmAtoms]))
  obtain ⟨tyS, dS, hdS, hdnS⟩ := Cond.laysAt hfound hk Y.stack (a (.lays cls Bundle.tN "stackTrace" Bundle.steD) (by simp [Bundle.messageArmAtoms]))
  obtain ⟨tyP, dP, hdP, hdnP⟩ := Cond.laysAt hfound hk Y.supp (a (.lays cls Bundle.tN "suppressedExceptions" Bundle.listD) (by simp [Bundle.messageArmAtoms]))
  obtain ⟨tyM, dM, hdM, hdnM⟩ := Cond.laysAt hfound hk hffM (a (.lays cls Bundle.tN "detailMessage" "Ljava/lang/String;") (by simp [Bundle.messageArmAtoms]))
  obtain ⟨tyB, dB, hdB, hdnB⟩ := Cond.laysAt hfound hk hffB (a (.lays cls Bundle.tN "backtrace" "Ljava/lang/Object;") (by simp [Bundle.messageArmAtoms]))
  have bC := Cond.laysApart hdB hdC hdnB hdnC (by rw [hnB, Y.causeName]; decide)
  have bS := Cond.laysApart hdB hdS hdnB hdnS (by rw [hnB, Y.stackName]; decide)
  have bP := Cond.laysApart hdB hdP hdnB hdnP (by rw [hnB, Y.suppName]; decide)
  have hbk : ((preparedCellV T.toThrowableT (freshCell P1.m.cls kX) (W.heap.size + 2) u0 sen).withEntry W.cur).slots[fB.slot]? = some .null := by
    have := fresh_default (c := P1.m.cls) tyB
    rw [htB] at this
    simpa [preparedCellV, Cell.setSlot, Cell.withEntry, Array.getElem?_setIfInBounds, bC, bS, bP, bC.symm, bS.symm, bP.symm, defaultValue] using this
  have tkC := Takes.of_laid (v := .ref (W.heap.size + 2)) hk hord tyC (by rw [Y.causeType]; rfl)
  have tkS := Takes.of_laid (v := u0.v) hk hord tyS (by rw [Y.stackType]; exact fits_refV_array _ u0)
  have tkP := Takes.of_laid (v := sen.v) hk hord tyP (by rw [Y.suppType]; exact fits_refV_object _ sen)
  have tkM := Takes.of_laid (v := .ref (W.heap.size + 1)) hk hord tyM (by rw [Y.msgType]; rfl)
  have hskip : SkipFacts T e.platform s (fun u => u) u0 ((preparedCellV T.toThrowableT (freshCell P1.m.cls kX) (W.heap.size + 2) u0 sen).withEntry W.cur) := ⟨{ ci198 := ci198, i198 := i198, fBack := fB }, ⟨hk198, hg198, ha198, hsB⟩, hbk, fun _ _ => rfl⟩
  have h0 : At W g.method c below := by rw [hg]; exact X.here
  obtain ⟨hbeyond, hfreeW⟩ := X.vmMayThrow hsize (.throwNew cls (some text) none) (fun f hf => by cases hf) rfl hRlocals
  have hfr' : W.frames.length + Ps.length + 4 < (e.platform.stackLimits W.me).1 := by have := X.framesAbove hRframes; omega
  have hwd' : (stackUse (.java g :: W.frames.tail)).2 + 13 * Ps.length + 55 ≤ (e.platform.stackLimits W.me).2 := by have := X.stackAbove hsize (K := 13 * Ps.length + 55) (by omega); omega
  have hslots : W.slotsUsed + (stringBytes (stringToUtf16 text)).size + Zs.kS.instanceTypes.size + kX.instanceTypes.size ≤ e.platform.maxSlots := by
    have := X.slotsAbove hRslots
    rw [hn4, hn6]
    omega
  obtain ⟨vm', hW', st⟩ := Steps.vmThrowsMessageColdByV p (s₀ := s) (S := W) (g := g) h0 hexec T L Z LZ M LM X.warmed (t := W.cur) rfl Zs LZs P1 L1 Ps hL hlink1 hlink hsoe hoom hfound hk hinit hord hctor
    (Launch.admits_hotImplicitExceptions X.admits) hbeyond hfreeW htext hlimit hheap (X.cellsAbove hRcells) hslots (hfitv _) (hfitc _)
    (Nn := fun u => u) heapOnly_id (fun _ _ => rfl) (fun _ => rfl) (fun u x y => setCell_twice _ _ _ _) (fun _ => Nat.le_refl _) (cN := ((preparedCellV T.toThrowableT (freshCell P1.m.cls kX) (W.heap.size + 2) u0 sen).withEntry W.cur))
    hsel0 hcellS hknownS hvU tkS (fun _ hu => hu) (fun _ hu => hu) rfl rfl rfl (by simp [preparedCellV, Cell.setSlot, Cell.withEntry]) hskip (fun _ _ hA hW _ hroom _ hrest => L.nativeOff p htr hA hW hroom hrest) hselF hvSen tkC tkP tkM Y.objLocals rfl hfr' hwd'
  rw [plainBareV_eq T.toThrowableT (W.heap.size + 2) u0 sen (.ref (W.heap.size + 1)) W.cur rfl rfl] at st
  obtain ⟨-, -, w3, w4, -, -, -⟩ := withThrown_facts e.platform W Zs text P1.m.cls kX
  have X3 := ((X.pushed (bytesOf Zs.cB (stringToUtf16 text))).pushed (stringAt Zs.cS Zs.kS Zs.fv Zs.fc (stringToUtf16 text) W.heap.size)).pushed (freshCell P1.m.cls kX)
  rw [← withString_eq] at X3
  have X4 := X3.noted hW'
  have ha : (W.heap.size + 2) < ((withThrown W Zs text P1.m.cls kX).setVm vm').heap.size := by show _ < (withThrown W Zs text P1.m.cls kX).heap.size; rw [w3]; omega
  have hcell : ((withThrown W Zs text P1.m.cls kX).setVm vm').heap[(W.heap.size + 2)]? = some (freshCell P1.m.cls kX) := w4
  have X5 := ((((X4.stored hcell T.fCause.slot (.ref (W.heap.size + 2))).storedAgain ha T.fStack.slot u0.v).storedAgain ha T.fSupp.slot sen.v).storedAgain ha T.fStack.slot u0.v).storedAgain ha T.fMsg.slot (.ref (W.heap.size + 1))
  obtain ⟨g₁, hfrM⟩ := X5.frames_eq
  have hU : ((((withThrown W Zs text P1.m.cls kX).setVm vm').setCell (W.heap.size + 2) (plainBareV T.toThrowableT (freshCell P1.m.cls kX) (W.heap.size + 2) u0 sen (.ref (W.heap.size + 1)))).setTop g).pushFrame (.throwing (W.heap.size + 2)) = (((withThrown W Zs text P1.m.cls kX).setVm vm').setCell (W.heap.size + 2) (plainBareV T.toThrowableT (freshCell P1.m.cls kX) (W.heap.size + 2) u0 sen (.ref (W.heap.size + 1)))).setFrames (.throwing (W.heap.size + 2) :: .java g :: below) := by
    rw [State.pushFrame, State.frames_setTop _ hfrM, State.setTop_of_frames _ hfrM, State.setFrames_setFrames]
  have b1 : (bytesOf Zs.cB (stringToUtf16 text)).slots.size = (stringBytes (stringToUtf16 text)).size := by
    rw [(Cell.writeAll_facts _ _).2.2]; simp [bytes0]
  have b2 : (stringAt Zs.cS Zs.kS Zs.fv Zs.fc (stringToUtf16 text) W.heap.size).slots.size = 4 := by simp [string0, Cell.setSlot, hn4]
  have b3 : (freshCell P1.m.cls kX).slots.size = 6 := by simp [hn6]
  rw [b1, b2, b3] at X5
  have e9 : slots + (stringBytes (stringToUtf16 text)).size + 4 + 6 = slots + ((stringBytes (stringToUtf16 text)).size + 4 + 6) := by omega
  rw [e9] at X5
  simp only [List.append_assoc, List.cons_append, List.nil_append] at X5
  refine ⟨((withThrown W Zs text P1.m.cls kX).setVm vm').setCell (W.heap.size + 2) (plainBareV T.toThrowableT (freshCell P1.m.cls kX) (W.heap.size + 2) u0 sen (.ref (W.heap.size + 1))), W.heap.size + 2, _, fun target ht => st _ (by rw [X.tail, ← hU]; exact ht),
    X5.forget (fun y hy => ?_), heapAt_setCell_self _ ha, hfound, rfl⟩
  simp only [List.mem_cons, List.not_mem_nil, or_false] at hy
  have hge : s.heap.size ≤ W.heap.size := X.same.2.1
  rcases hy with rfl | rfl | rfl | rfl | rfl <;> exact Nat.le_trans hge (Nat.le_add_right _ 2)
set_option maxHeartbeats 1000000 in
/-- the machine throws NullPointerException, no traces kept: from its note over the frame g to 'throwing' over the same frame (follows the proof of Stand.vmThrowsNpe, Shelf42/KT2.lean; throwsNpeColdBareVAt, Shelf42/NT91.lean, called) -/
theorem vx_npeAt {p : Program} {l : Launch} {e : Env} {R : Room} {s : State} {m₀ : MethodId} {args : Array Value} {below : List Frame} {meth : Method} {c : Code} {W : State} {locs : List Loc} {cells slots : Nat}
    (X : Stand p l e R s m₀ args below meth c W locs cells slots) (hexec : p.tables.exec = Jvm.exec) (htr : e.platform.stackTraces = false) {n : Nat}
    (h : ∀ a ∈ Bundle.npeArmAtoms n, a.before args s = true)
    (hlocs : ∀ x ∈ locs, ∀ cell, s.heap[x.base]? = some cell → cell.vm.isStatics = false)
    {g : JFrame} (hg : g.method = m₀) (hsize : g.locals.size = c.maxLocals)
    (hRframes : 7 < R.frames) (hRlocals : 2 * g.monitorRoom + (g.stack.map fun v => v.category).sum + 10240 ≤ R.locals)
    (hRcells : cells + 1 ≤ R.cells) (hRslots : slots + n ≤ R.slots) (hlocks : meth.locks = false) :
    ∃ (S : State) (q : Addr) (ce : Cell), (∀ target, Steps p.tables e below ((S.setTop g).pushFrame (.throwing q)) target → Steps p.tables e below ((W.setTop g).pushFrame (.throwNew "java/lang/NullPointerException" none none)) target) ∧
      Stand p l e R s m₀ args below meth c S locs (cells + 1) (slots + n) ∧ S.heap[q]? = some ce ∧ s.vm.findClass "java/lang/NullPointerException" = some ce.cls ∧ ce.vm = .none := by
  have howns : e.platform.frameOwnsMonitors = true := by rw [X.admits.platform]
  have hfin : e.platform.finalization = false := by rw [X.admits.platform]
  have hpl : e.platform.magicAccessors = ({} : Platform).magicAccessors := by rw [X.admits.platform]
  have hpl2 : e.platform.arrayCloneIsPublic = true := by rw [X.admits.platform]
  have a' : ∀ x, x ∈ Bundle.npeArmAtoms n → x.holds args s none s [] = true := fun x hx => h x hx
  obtain ⟨T, Z, L, LZ, Y⟩ := ThrowableC.of_atoms (args := args) howns hfin hpl (fun x hx => h x (by simp [Bundle.npeArmAtoms, hx]))
  obtain ⟨N, LN, hcN, hnNF, hordN, hffS⟩ := NpeC.of_atoms (args := args) hpl hpl2 L Y (fun x hx => h x (by simp [Bundle.npeArmAtoms, hx]))
  obtain ⟨P1, L1, hP1m, hP1s⟩ := PassC.of_atoms (args := args) (s := s) hpl (X := Bundle.nN) (Y := Bundle.rN) (by decide) (by decide) LibCode.NullPointerException.Init0.at_0 LibCode.NullPointerException.Init0.at_1 LibCode.NullPointerException.Init0.at_4 (fun x hx => h x (by simp [Bundle.npeArmAtoms, hx]))
  obtain ⟨PR, LR, hPRm, hPRs⟩ := PassC.of_atoms (args := args) (s := s) hpl (X := Bundle.rN) (Y := Bundle.eN) (by decide) (by decide) LibCode.RuntimeException.Init0.at_0 LibCode.RuntimeException.Init0.at_1 LibCode.RuntimeException.Init0.at_4 (fun x hx => h x (by simp [Bundle.npeArmAtoms, hx]))
  obtain ⟨PE, LEx, hPEm, hPEs⟩ := PassC.of_atoms (args := args) (s := s) hpl (X := Bundle.eN) (Y := Bundle.tN) (by decide) (by decide) LibCode.Exception.Init0.at_0 LibCode.Exception.Init0.at_1 LibCode.Exception.Init0.at_4 (fun x hx => h x (by simp [Bundle.npeArmAtoms, hx]))
  have hfound : s.vm.findClass Bundle.nN = some P1.m.cls := findClass_of_methodNamed hP1m
  have ecls : N.cN = P1.m.cls := Option.some.inj (hcN.symm.trans hfound)
  have hk : s.vm.classes[P1.m.cls]? = some N.kN := by rw [← ecls]; exact LN.cls
  have hinit := Cond.initialized_spec hfound hk (a' (.initialized Bundle.nN) (by simp [Bundle.npeArmAtoms]))
  have hctor : N.kN.findMethod "<init>" "()V" = some P1.m.idx := findMethod_of_methodNamed hP1m hk
  obtain ⟨c1, k1, hc1, hk1, -, -, -, hn⟩ := Cond.instantiable_spec (a' (.instantiable Bundle.nN n) (by simp [Bundle.npeArmAtoms]))
  cases Option.some.inj (hc1.symm.trans hfound)
  cases Option.some.inj (hk1.symm.trans hk)
  have hfsz : (freshCell P1.m.cls N.kN).slots.size = n := by simp [hn]
  have hlink1 : P1.sup = PR.m := Option.some.inj (hP1s.symm.trans hPRm)
  have hlinkR : PR.sup = PE.m := Option.some.inj (hPRs.symm.trans hPEm)
  have hlinkE : PE.sup = Z.m T.toThrowableT := Option.some.inj (hPEs.symm.trans Y.init0)
  have hLs : ∀ P, P ∈ [PR, PE] → P.Links0 e.platform s := fun P hP => by
    simp only [List.mem_cons, List.not_mem_nil, or_false] at hP
    rcases hP with rfl | rfl
    · exact LR
    · exact LEx
  have hsel0 : selectMethod e.platform s.vm P1.m.cls T.fill0 = .method T.fill0 := by
    obtain ⟨c2, r2, m2, q1, q2, q3, q4, -⟩ := Cond.selects_spec (a' (.selects Bundle.nN Bundle.tFill0 Bundle.tFill0) (by simp [Bundle.npeArmAtoms]))
    cases Option.some.inj (q1.symm.trans hfound)
    cases Option.some.inj (q2.symm.trans (State.methodFound?_of_named Y.fill0 (by decide)))
    cases Option.some.inj (q3.symm.trans Y.fill0)
    rw [Launch.admits_selectMethod X.admits]; exact q4
  have hselF : selectMethod e.platform s.vm P1.m.cls T.fill = .method N.fill := by
    obtain ⟨c2, r2, m2, q1, q2, q3, q4, -⟩ := Cond.selects_spec (a' (.selects Bundle.nN Bundle.tFill Bundle.nFill) (by simp [Bundle.npeArmAtoms]))
    cases Option.some.inj (q1.symm.trans hfound)
    cases Option.some.inj (q2.symm.trans (State.methodFound?_of_named Y.fill (by decide)))
    cases Option.some.inj (q3.symm.trans hnNF)
    rw [Launch.admits_selectMethod X.admits]; exact q4
  obtain ⟨cellS0, hcS0, hiss⟩ := Y.statics
  obtain ⟨u0, hu0⟩ := Cond.staticRefV Y.unassigned L.unassignedStatic L.statics hcS0 hiss (a' (.isRef (.static Bundle.tN "UNASSIGNED_STACK" Bundle.steD)) (by simp [Bundle.npeArmAtoms]))
  obtain ⟨sen, hsen⟩ := Cond.staticRefV Y.sentinel L.sentinelStatic L.statics hcS0 hiss (a' (.isRef (.static Bundle.tN "SUPPRESSED_SENTINEL" Bundle.listD)) (by simp [Bundle.npeArmAtoms]))
  obtain ⟨ci198, i198, fB, hk198, hg198, ha198, hsB, -, hnB, htB, hffB⟩ := Cond.ownField (t := .object "java/lang/Object") Y.found L.cls (by decide +kernel) (a' (.fieldLink Bundle.tN 198 Bundle.tN "backtrace" Bundle.objD) (by simp [Bundle.npeArmAtoms])) (a' (.lays Bundle.tN Bundle.tN "backtrace" Bundle.objD) (by simp [Bundle.npeArmAtoms])) e.platform hpl
  obtain ⟨cellS, hcS', heS, -, hkeep⟩ := X.same.2.2.2.2.2 T.aS cellS0 hcS0
  have hcellS : W.heap[T.aS]? = some cellS := hcS'
  have hout' : ∀ i, (⟨T.aS, i⟩ : Loc) ∉ locs := fun i hmem => by
    have := hlocs _ hmem cellS0 hcS0
    rw [hiss] at this; cases this
  have hknownS : cellS.vm ≠ .unknown := by
    rw [heS]; intro hu
    rw [show cellS0.vm = .unknown from hu] at hiss
    cases hiss
  have hvU : cellS.slots[T.fUnassigned.slot]? = some u0.v := by rw [hkeep _ (hout' _)]; exact hu0
  have hvSen : cellS.slots[T.fSentinel.slot]? = some sen.v := by rw [hkeep _ (hout' _)]; exact hsen
  obtain ⟨tyC, dC, hdC, hdnC⟩ := Cond.laysAt hfound hk Y.cause (a' (.lays Bundle.nN Bundle.tN "cause" "Ljava/lang/Throwable;") (by simp [Bundle.npeArmAtoms]))
  obtain ⟨tyS, dS, hdS, hdnS⟩ := Cond.laysAt hfound hk Y.stack (a' (.lays Bundle.nN Bundle.tN "stackTrace" Bundle.steD) (by simp [Bundle.npeArmAtoms]))
  obtain ⟨tyP, dP, hdP, hdnP⟩ := Cond.laysAt hfound hk Y.supp (a' (.lays Bundle.nN Bundle.tN "suppressedExceptions" Bundle.listD) (by simp [Bundle.npeArmAtoms]))
  obtain ⟨tyX, dX, hdX, hdnX⟩ := Cond.laysAt hfound hk hffS (a' (.lays Bundle.nN Bundle.nN "extendedMessageState" "I") (by simp [Bundle.npeArmAtoms, Bundle.npeAtoms]))
  obtain ⟨hnX, htX⟩ := State.fieldFound?_type hffS (t := .int) (by decide +kernel)
  have xC := Cond.laysApart hdC hdX hdnC hdnX (by rw [hnX, Y.causeName]; decide)
  have xS := Cond.laysApart hdS hdX hdnS hdnX (by rw [hnX, Y.stackName]; decide)
  have xP := Cond.laysApart hdP hdX hdnP hdnX (by rw [hnX, Y.suppName]; decide)
  have hv0 : (freshCell P1.m.cls N.kN).slots[N.fState.slot]? = some (.int 0) := by
    have := fresh_default (c := P1.m.cls) tyX
    rw [htX] at this; exact this
  obtain ⟨tyB, dB, hdB, hdnB⟩ := Cond.laysAt hfound hk hffB (a' (.lays Bundle.nN Bundle.tN "backtrace" Bundle.objD) (by simp [Bundle.npeArmAtoms]))
  have bC := Cond.laysApart hdB hdC hdnB hdnC (by rw [hnB, Y.causeName]; decide)
  have bS := Cond.laysApart hdB hdS hdnB hdnS (by rw [hnB, Y.stackName]; decide)
  have bP := Cond.laysApart hdB hdP hdnB hdnP (by rw [hnB, Y.suppName]; decide)
  have bX := Cond.laysApart hdB hdX hdnB hdnX (by rw [hnB, hnX]; decide)
  have hbk : ((npeCell N.toNpeT (preparedCellV T.toThrowableT (freshCell P1.m.cls N.kN) W.heap.size u0 sen) W.cur).withEntry W.cur).slots[fB.slot]? = some .null := by
    have := fresh_default (c := P1.m.cls) tyB
    rw [htB] at this
    simpa [npeCell, preparedCellV, Cell.setSlot, Cell.withEntry, Array.getElem?_setIfInBounds, bC, bS, bP, bX, bC.symm, bS.symm, bP.symm, bX.symm, defaultValue] using this
  have tkC := Takes.of_laid (v := .ref W.heap.size) hk hordN tyC (by rw [Y.causeType]; rfl)
  have tkS := Takes.of_laid (v := u0.v) hk hordN tyS (by rw [Y.stackType]; exact fits_refV_array _ u0)
  have tkP := Takes.of_laid (v := sen.v) hk hordN tyP (by rw [Y.suppType]; exact fits_refV_object _ sen)
  have tkX := Takes.of_laid (v := .int 1) hk hordN tyX (by rw [htX]; rfl)
  have hskip : SkipFacts T e.platform s (fun u => u) u0 ((npeCell N.toNpeT (preparedCellV T.toThrowableT (freshCell P1.m.cls N.kN) W.heap.size u0 sen) W.cur).withEntry W.cur) := ⟨{ ci198 := ci198, i198 := i198, fBack := fB }, ⟨hk198, hg198, ha198, hsB⟩, hbk, fun _ _ => rfl⟩
  obtain ⟨vm', X3, st, -⟩ := X.throwsNpeColdBareVAt hexec hg hsize T L Z LZ N LN P1 L1 [PR, PE] hLs hlink1 ⟨hlinkR, hlinkE, trivial⟩ hfound hk hinit hordN hctor hsel0 hselF hcellS hknownS hvU hvSen
    hv0 xC xS xP tkC tkS tkP tkX Y.objLocals hskip (fun _ _ hA hW _ hroom _ hrest => L.nativeOff p htr hA hW hroom hrest) (by simpa using hRframes) hRlocals (by simp) hRcells (by rw [hn]; exact hRslots)
  have hlt : W.heap.size < ((W.pushCell (freshCell P1.m.cls N.kN)).setVm vm').heap.size := by
    show W.heap.size < (W.pushCell (freshCell P1.m.cls N.kN)).heap.size
    rw [State.heap_size_pushCell]; omega
  rw [hfsz] at X3
  obtain ⟨g₁, hfrM⟩ := X3.frames_eq
  have hU : ((((W.pushCell (freshCell P1.m.cls N.kN)).setVm vm').setCell W.heap.size (npeBareV T.toThrowableT N.toNpeT (freshCell P1.m.cls N.kN) W.heap.size u0 sen)).setTop g).pushFrame (.throwing W.heap.size) = (((W.pushCell (freshCell P1.m.cls N.kN)).setVm vm').setCell W.heap.size (npeBareV T.toThrowableT N.toNpeT (freshCell P1.m.cls N.kN) W.heap.size u0 sen)).setFrames (.throwing W.heap.size :: .java g :: below) := by
    rw [State.pushFrame, State.frames_setTop _ hfrM, State.setTop_of_frames _ hfrM, State.setFrames_setFrames]
  refine ⟨_, W.heap.size, _, fun target ht => st.trans (by rw [← hU]; exact ht), X3.forget (fun y hy => ?_), heapAt_setCell_self _ hlt, hfound, rfl⟩
  simp only [List.mem_cons, List.not_mem_nil, or_false] at hy
  have hge : s.heap.size ≤ W.heap.size := X.same.2.1
  rcases hy with rfl | rfl | rfl | rfl | rfl <;> exact hge
/-- the words of a machine's NullPointerException, but the four that speak of the heap -/
def vx_atN (n : Nat) : List Cond := (Bundle.npeArmAtoms n).filter vx_no
/-- the words of a machine's throw with a message, but the four that speak of the heap -/
def vx_atM (X : String) (names : List String) : List Cond := (Bundle.messageArmAtoms X names).filter vx_no
section
variable {p : Program} {l : Launch} {e : Env} {R : Room} {s : State} {m : MethodId} {args : Array Value} {below : List Frame} {meth : Method} {c : Code} {H : Heap} {locs : List Loc} {cells slots : Nat}
/-- a frame seen from a rebased start, seen from the first start again -/
theorem vx_back9 {T S : State} {R' : Room} {k n : Nat} (X : Stand p l e R s m args below meth c T locs cells slots) (Y : Stand p l e R' ((T.setVm s.vm).setFrames (.invoking m args :: below)) m args below meth c T [] 0 0) (Z : Stand p l e R' ((T.setVm s.vm).setFrames (.invoking m args :: below)) m args below meth c S [] k n) :
    Stand p l e R s m args below meth c S locs (cells + k) (slots + n) := by
  have hW0 : s.WarmedH ((T.setVm s.vm).setFrames (.invoking m args :: below)).vm := State.WarmedH.refl s
  refine { admits := X.admits, cas := X.cas, clock := X.clock, frames := X.frames, room := X.room, hears := X.hears, method := X.method, code := X.code, here := Z.here, tail := Z.tail, warmed := State.WarmedH.trans hW0 Z.warmed, limits := Z.limits.trans (Y.limits.symm.trans X.limits), bytes := Z.bytes.trans (Y.bytes.symm.trans X.bytes), same := ?_ }
  obtain ⟨e1, e2⟩ := Z.same
  rw [State.setFrames_setFrames] at e1
  have h2 : (T.setVm s.vm).sameButNew (S.setVm s.vm) [] k n := ⟨e1, e2⟩
  have h3 := X.same.trans h2
  rw [List.append_nil] at h3
  exact h3
/-- from the machine's note that E is thrown here with this text -/
def vx_Note (p : Program) (l : Launch) (e : Env) (R : Room) (s : State) (m : MethodId) (args : Array Value) (below : List Frame) (meth : Method) (c : Code) (H : Heap) (locs : List Loc) (cells slots : Nat) (Q : State → Prop) (g : JFrame) (E text : String) : Prop :=
  ∀ T : State, T.heap = H → Stand p l e R s m args below meth c T locs cells slots → ∃ t, Steps p.tables e below ((T.setTop g).pushFrame (.throwNew E (some text) none)) t ∧ Q t
theorem vx_vm {pc : Nat} {ls : Array Slot} {rest : List Value} {Q : State → Prop} (hexec : p.tables.exec = Jvm.exec) (hl : l.stackTraces = false) {cls text : String} {names : List String} {nb : Nat} {A : Nat → Prop}
    (hcls : Bundle.fit cls = true) (hnames : ∀ n ∈ names, Bundle.fit n = true) (hsoe : (cls == "java/lang/StackOverflowError") = false) (hoom : (cls == "java/lang/OutOfMemoryError") = false)
    (hat : ∀ w ∈ vx_atM cls names, w.before args s = true) (hgood : ∀ w ∈ vx_atM cls names, vx_ot w = true)
    (hU : vx_Zq Bundle.tN "UNASSIGNED_STACK" Bundle.steD A s s.heap) (hN : vx_Zq Bundle.tN "SUPPRESSED_SENTINEL" Bundle.listD A s s.heap) (hS : va_S A s.heap H locs) (hsize : ls.size = c.maxLocals)
    (htext : (text == notModelled) = false) (hnb : (stringBytes (stringToUtf16 text)).size ≤ nb) (hnb1 : nb ≤ 1000)
    (hRframes : names.length + 4 < R.frames) (hRlocals : (rest.map fun v => v.category).sum + 10240 ≤ R.locals) (hshort : 13 * names.length + 55 ≤ 10240) (hRcells : cells + 3 ≤ R.cells) (hRslots : slots + (nb + 10) ≤ R.slots) (hlocks : meth.locks = false)
    (k : ∀ (H1 : Heap) (q9 : Addr) (ce : Cell), H.size ≤ H1.size → (∀ q : Nat, q < H.size → H1[q]? = H[q]?) → va_S A s.heap H1 locs → H1[q9]? = some ce → ce.vm = .none → s.vm.findClass cls = some ce.cls → vx_W p l e R s m args below meth c H1 locs (cells + 3) (slots + (nb + 10)) Q (F0 m pc ls rest) q9) :
    vx_Note p l e R s m args below meth c H locs cells slots Q (F0 m pc ls rest) cls text := by
  intro T hT X
  have htr : e.platform.stackTraces = false := (show e.platform.stackTraces = l.stackTraces by rw [X.admits.platform]).trans hl
  have Y := vx_rebase X (R' := { frames := R.frames, locals := R.locals, cells := 3, slots := nb + 10 }) (Nat.le_refl _) (Nat.le_refl _) hRcells hRslots
  have hhp : ((T.setVm s.vm).setFrames (.invoking m args :: below)).heap = H := hT
  have hW0 : s.WarmedH ((T.setVm s.vm).setFrames (.invoking m args :: below)).vm := State.WarmedH.refl s
  have hat' : ∀ w ∈ vx_atM cls names, w.before args ((T.setVm s.vm).setFrames (.invoking m args :: below)) = true := fun w hw => vx_ot_at hW0 rfl (hgood w hw) (hat w hw)
  have hU' : vx_Zq Bundle.tN "UNASSIGNED_STACK" Bundle.steD A ((T.setVm s.vm).setFrames (.invoking m args :: below)) ((T.setVm s.vm).setFrames (.invoking m args :: below)).heap := by rw [hhp]; exact vx_Zq.moved hW0.alike (hU.kept hS.2.1)
  have hN' : vx_Zq Bundle.tN "SUPPRESSED_SENTINEL" Bundle.listD A ((T.setVm s.vm).setFrames (.invoking m args :: below)) ((T.setVm s.vm).setFrames (.invoking m args :: below)).heap := by rw [hhp]; exact vx_Zq.moved hW0.alike (hN.kept hS.2.1)
  obtain ⟨S, q, ce, st, Z, hce, hcl', hv⟩ := vx_vmAt Y hexec htr (cls := cls) (names := names) (text := text) hcls hnames hsoe hoom (vx_own hat' (vx_isRefq hU'.1) (vx_isRefq hN'.1) hU'.2.word hN'.2.word) (fun x hx => nomatch hx) htext
    (by rw [Launch.admits_arrayLengthLimit X.admits]; omega) (by rw [Launch.admits_maxHeapBytes X.admits]; simp only [componentBytes]; omega)
    (g := F0 m pc ls rest) rfl hsize hRframes (by show 2 * 0 + (rest.map fun v => v.category).sum + 10240 ≤ R.locals; omega) hshort (by show 0 + 3 ≤ 3; omega) (by show 0 + (_ + 4 + 6) ≤ nb + 10; omega) hlocks
  obtain ⟨f1, f2⟩ := vx_frame Z.same
  have f1' : H.size ≤ S.heap.size := by rw [← hT]; exact f1
  have f2' : ∀ q : Nat, q < H.size → S.heap[q]? = H[q]? := fun q hq => by
    rw [← hT]
    exact f2 q (by rw [← hT] at hq; exact hq) (fun z hz => nomatch hz)
  have X5 := vx_back9 X Y Z
  have X6 : Stand p l e R s m args below meth c S locs (cells + 3) (slots + (nb + 10)) := { X5 with same := X5.same.mono (by omega) (by omega) }
  obtain ⟨t, a1, b1⟩ := k S.heap q ce f1' f2' ⟨Nat.le_trans hS.1 f1', fun q h1 h2 => (f2' q (Nat.lt_of_lt_of_le h1 hS.1)).trans (hS.2.1 q h1 h2), hS.2.2⟩ hce hv hcl' S rfl X6
  exact ⟨t, st t a1, b1⟩
/-- from the machine's note that NullPointerException is thrown here -/
def vx_NoteN (p : Program) (l : Launch) (e : Env) (R : Room) (s : State) (m : MethodId) (args : Array Value) (below : List Frame) (meth : Method) (c : Code) (H : Heap) (locs : List Loc) (cells slots : Nat) (Q : State → Prop) (g : JFrame) : Prop :=
  ∀ T : State, T.heap = H → Stand p l e R s m args below meth c T locs cells slots → ∃ t, Steps p.tables e below ((T.setTop g).pushFrame (.throwNew "java/lang/NullPointerException" none none)) t ∧ Q t
theorem vx_npe {pc : Nat} {ls : Array Slot} {rest : List Value} {Q : State → Prop} (hexec : p.tables.exec = Jvm.exec) (hl : l.stackTraces = false) {nb : Nat} {A : Nat → Prop}
    (hat : ∀ w ∈ vx_atN nb, w.before args s = true) (hgood : ∀ w ∈ vx_atN nb, vx_ot w = true)
    (hU : vx_Zq Bundle.tN "UNASSIGNED_STACK" Bundle.steD A s s.heap) (hN : vx_Zq Bundle.tN "SUPPRESSED_SENTINEL" Bundle.listD A s s.heap) (hS : va_S A s.heap H locs) (hsize : ls.size = c.maxLocals)
    (hRframes : 7 < R.frames) (hRlocals : (rest.map fun v => v.category).sum + 10240 ≤ R.locals) (hRcells : cells + 1 ≤ R.cells) (hRslots : slots + nb ≤ R.slots) (hlocks : meth.locks = false)
    (k : ∀ (H1 : Heap) (q9 : Addr) (ce : Cell), H.size ≤ H1.size → (∀ q : Nat, q < H.size → H1[q]? = H[q]?) → va_S A s.heap H1 locs → H1[q9]? = some ce → ce.vm = .none → s.vm.findClass "java/lang/NullPointerException" = some ce.cls → vx_W p l e R s m args below meth c H1 locs (cells + 1) (slots + nb) Q (F0 m pc ls rest) q9) :
    vx_NoteN p l e R s m args below meth c H locs cells slots Q (F0 m pc ls rest) := by
  intro T hT X
  have htr : e.platform.stackTraces = false := (show e.platform.stackTraces = l.stackTraces by rw [X.admits.platform]).trans hl
  have Y := vx_rebase X (R' := { frames := R.frames, locals := R.locals, cells := 1, slots := nb }) (Nat.le_refl _) (Nat.le_refl _) hRcells hRslots
  have hhp : ((T.setVm s.vm).setFrames (.invoking m args :: below)).heap = H := hT
  have hW0 : s.WarmedH ((T.setVm s.vm).setFrames (.invoking m args :: below)).vm := State.WarmedH.refl s
  have hat' : ∀ w ∈ vx_atN nb, w.before args ((T.setVm s.vm).setFrames (.invoking m args :: below)) = true := fun w hw => vx_ot_at hW0 rfl (hgood w hw) (hat w hw)
  have hU' : vx_Zq Bundle.tN "UNASSIGNED_STACK" Bundle.steD A ((T.setVm s.vm).setFrames (.invoking m args :: below)) ((T.setVm s.vm).setFrames (.invoking m args :: below)).heap := by rw [hhp]; exact vx_Zq.moved hW0.alike (hU.kept hS.2.1)
  have hN' : vx_Zq Bundle.tN "SUPPRESSED_SENTINEL" Bundle.listD A ((T.setVm s.vm).setFrames (.invoking m args :: below)) ((T.setVm s.vm).setFrames (.invoking m args :: below)).heap := by rw [hhp]; exact vx_Zq.moved hW0.alike (hN.kept hS.2.1)
  obtain ⟨S, q, ce, st, Z, hce, hcl', hv⟩ := vx_npeAt Y hexec htr (n := nb) (vx_own hat' (vx_isRefq hU'.1) (vx_isRefq hN'.1) hU'.2.word hN'.2.word) (fun x hx => nomatch hx)
    (g := F0 m pc ls rest) rfl hsize hRframes (by show 2 * 0 + (rest.map fun v => v.category).sum + 10240 ≤ R.locals; omega) (by show 0 + 1 ≤ 1; omega) (by show 0 + nb ≤ nb; omega) hlocks
  obtain ⟨f1, f2⟩ := vx_frame Z.same
  have f1' : H.size ≤ S.heap.size := by rw [← hT]; exact f1
  have f2' : ∀ q : Nat, q < H.size → S.heap[q]? = H[q]? := fun q hq => by
    rw [← hT]
    exact f2 q (by rw [← hT] at hq; exact hq) (fun z hz => nomatch hz)
  have X5 := vx_back9 X Y Z
  have X6 : Stand p l e R s m args below meth c S locs (cells + 1) (slots + nb) := { X5 with same := X5.same.mono (by omega) (by omega) }
  obtain ⟨t, a1, b1⟩ := k S.heap q ce f1' f2' ⟨Nat.le_trans hS.1 f1', fun q h1 h2 => (f2' q (Nat.lt_of_lt_of_le h1 hS.1)).trans (hS.2.1 q h1 h2), hS.2.2⟩ hce hv hcl' S rfl X6
  exact ⟨t, st t a1, b1⟩
variable {Q : State → Prop} {cc : ByteArray} {pc : Nat} {ls : Array Slot} {rest : List Value}
theorem vx_idivZ (hexec : p.tables.exec = Jvm.exec) (hb : c.code = cc) {a b : Int32} (h0 : b = 0) (d : decode cc pc = .ok (.idiv, 1)) (k : vx_Note p l e R s m args below meth c H locs cells slots Q (F0 m pc ls rest) "java/lang/ArithmeticException" "/ by zero") :
    W p l e R s m args below meth c H locs cells slots Q (F0 m pc ls (.int b :: .int a :: rest)) := by
  intro T hT X
  obtain ⟨t, st, q⟩ := k T hT X
  exact ⟨t, X.idivZero hexec (g := F0 m pc ls (.int b :: .int a :: rest)) rfl (a := a) (rest := rest) (by rw [h0]) (by rw [hb]; exact d) t st, q⟩
theorem vx_iremZ (hexec : p.tables.exec = Jvm.exec) (hb : c.code = cc) {a b : Int32} (h0 : b = 0) (d : decode cc pc = .ok (.irem, 1)) (k : vx_Note p l e R s m args below meth c H locs cells slots Q (F0 m pc ls rest) "java/lang/ArithmeticException" "/ by zero") :
    W p l e R s m args below meth c H locs cells slots Q (F0 m pc ls (.int b :: .int a :: rest)) := by
  intro T hT X
  obtain ⟨t, st, q⟩ := k T hT X
  exact ⟨t, X.iremZero hexec (g := F0 m pc ls (.int b :: .int a :: rest)) rfl (a := a) (rest := rest) (by rw [h0]) (by rw [hb]; exact d) t st, q⟩
theorem vx_ldivZ (hexec : p.tables.exec = Jvm.exec) (hb : c.code = cc) {a b : Int64} (h0 : b = 0) (d : decode cc pc = .ok (.ldiv, 1)) (k : vx_Note p l e R s m args below meth c H locs cells slots Q (F0 m pc ls rest) "java/lang/ArithmeticException" "/ by zero") :
    W p l e R s m args below meth c H locs cells slots Q (F0 m pc ls (.long b :: .long a :: rest)) := by
  intro T hT X
  obtain ⟨t, st, q⟩ := k T hT X
  exact ⟨t, X.ldivZero hexec (g := F0 m pc ls (.long b :: .long a :: rest)) rfl (a := a) (rest := rest) (by rw [h0]) (by rw [hb]; exact d) t st, q⟩
theorem vx_lremZ (hexec : p.tables.exec = Jvm.exec) (hb : c.code = cc) {a b : Int64} (h0 : b = 0) (d : decode cc pc = .ok (.lrem, 1)) (k : vx_Note p l e R s m args below meth c H locs cells slots Q (F0 m pc ls rest) "java/lang/ArithmeticException" "/ by zero") :
    W p l e R s m args below meth c H locs cells slots Q (F0 m pc ls (.long b :: .long a :: rest)) := by
  intro T hT X
  obtain ⟨t, st, q⟩ := k T hT X
  exact ⟨t, X.lremZero hexec (g := F0 m pc ls (.long b :: .long a :: rest)) rfl (a := a) (rest := rest) (by rw [h0]) (by rw [hb]; exact d) t st, q⟩
theorem vx_ialdZ {D : va_G} {cl : List vw_C} {ws : va_W} {tys : List (ClassId × FieldType)} {a : Nat} (hexec : p.tables.exec = Jvm.exec) (hb : c.code = cc) (hK : va_K D cl tys s) (hP : va_P D cl ws H) (q0 t0 : Nat) {cA : ClassId} {n : Nat} {f : Nat → Int32} (ha : ws[q0]? = some (a, .inl (cA, n, .inl f))) (ht : tys[t0]? = some (cA, .int)) {i : Int32} (hout : ¬ vp_in i n) (hdg : decode cc pc = .ok (.iaload, 1))
    (k : ∀ tx : String, tx = (toString "Index " ++ toString i ++ toString " out of bounds for length " ++ toString n : String) → vx_Note p l e R s m args below meth c H locs cells slots Q (F0 m pc ls rest) "java/lang/ArrayIndexOutOfBoundsException" tx) : W p l e R s m args below meth c H locs cells slots Q (F0 m pc ls (.int i :: .ref a :: rest)) := by
  intro T hT X
  obtain ⟨t, st, q⟩ := k _ rfl T hT X
  refine ⟨t, ?_, q⟩
  have h1 := X.ialoadOut hexec (by rw [hT]; exact hP q0 _ ha) ((hK.2 t0 _ ht).1 n (fun j => .int (f j))) (j := i) (by show (i < 0 ∨ (arrV _ _ _).slots.size ≤ _); rw [arrV_size]; exact Classical.byContradiction hout) (g := F0 m pc ls (.int i :: .ref a :: rest)) rfl (rest := rest) rfl (by rw [hb]; exact hdg) t
  simp only [arrV_size] at h1
  exact h1 st
theorem vx_iastZ {D : va_G} {cl : List vw_C} {ws : va_W} {tys : List (ClassId × FieldType)} {a : Nat} (hexec : p.tables.exec = Jvm.exec) (hb : c.code = cc) (hK : va_K D cl tys s) (hP : va_P D cl ws H) (q0 t0 : Nat) {cA : ClassId} {n : Nat} {f : Nat → Int32} (ha : ws[q0]? = some (a, .inl (cA, n, .inl f))) (ht : tys[t0]? = some (cA, .int)) {i : Int32} {x : Int32} (hout : ¬ vp_in i n) (hdg : decode cc pc = .ok (.iastore, 1))
    (k : ∀ tx : String, tx = (toString "Index " ++ toString i ++ toString " out of bounds for length " ++ toString n : String) → vx_Note p l e R s m args below meth c H locs cells slots Q (F0 m pc ls rest) "java/lang/ArrayIndexOutOfBoundsException" tx) : W p l e R s m args below meth c H locs cells slots Q (F0 m pc ls (.int x :: .int i :: .ref a :: rest)) := by
  intro T hT X
  obtain ⟨t, st, q⟩ := k _ rfl T hT X
  refine ⟨t, ?_, q⟩
  have h1 := X.iastoreOut hexec (by rw [hT]; exact hP q0 _ ha) ((hK.2 t0 _ ht).1 n (fun j => .int (f j))) (j := i) (by show (i < 0 ∨ (arrV _ _ _).slots.size ≤ _); rw [arrV_size]; exact Classical.byContradiction hout) (g := F0 m pc ls (.int x :: .int i :: .ref a :: rest)) rfl (rest := rest) rfl (by rw [hb]; exact hdg) t
  simp only [arrV_size] at h1
  exact h1 st
theorem vx_baldZ {D : va_G} {cl : List vw_C} {ws : va_W} {tys : List (ClassId × FieldType)} {a : Nat} (hexec : p.tables.exec = Jvm.exec) (hb : c.code = cc) (hK : va_K D cl tys s) (hP : va_P D cl ws H) (q0 t0 : Nat) {cA : ClassId} {n : Nat} {f : Nat → Int32} (ha : ws[q0]? = some (a, .inl (cA, n, .inl f))) (ht : tys[t0]? = some (cA, .byte)) {i : Int32} (hout : ¬ vp_in i n) (hdg : decode cc pc = .ok (.baload, 1))
    (k : ∀ tx : String, tx = (toString "Index " ++ toString i ++ toString " out of bounds for length " ++ toString n : String) → vx_Note p l e R s m args below meth c H locs cells slots Q (F0 m pc ls rest) "java/lang/ArrayIndexOutOfBoundsException" tx) : W p l e R s m args below meth c H locs cells slots Q (F0 m pc ls (.int i :: .ref a :: rest)) := by
  intro T hT X
  obtain ⟨t, st, q⟩ := k _ rfl T hT X
  refine ⟨t, ?_, q⟩
  have h1 := X.baloadOut hexec (by rw [hT]; exact hP q0 _ ha) ((hK.2 t0 _ ht).1 n (fun j => .int (f j))) (j := i) (by show (i < 0 ∨ (arrV _ _ _).slots.size ≤ _); rw [arrV_size]; exact Classical.byContradiction hout) (g := F0 m pc ls (.int i :: .ref a :: rest)) rfl (rest := rest) rfl (by rw [hb]; exact hdg) t
  simp only [arrV_size] at h1
  exact h1 st
theorem vx_bastZ {D : va_G} {cl : List vw_C} {ws : va_W} {tys : List (ClassId × FieldType)} {a : Nat} (hexec : p.tables.exec = Jvm.exec) (hb : c.code = cc) (hK : va_K D cl tys s) (hP : va_P D cl ws H) (q0 t0 : Nat) {cA : ClassId} {n : Nat} {f : Nat → Int32} (ha : ws[q0]? = some (a, .inl (cA, n, .inl f))) (ht : tys[t0]? = some (cA, .byte)) {i : Int32} {x : Int32} (hout : ¬ vp_in i n) (hdg : decode cc pc = .ok (.bastore, 1))
    (k : ∀ tx : String, tx = (toString "Index " ++ toString i ++ toString " out of bounds for length " ++ toString n : String) → vx_Note p l e R s m args below meth c H locs cells slots Q (F0 m pc ls rest) "java/lang/ArrayIndexOutOfBoundsException" tx) : W p l e R s m args below meth c H locs cells slots Q (F0 m pc ls (.int x :: .int i :: .ref a :: rest)) := by
  intro T hT X
  obtain ⟨t, st, q⟩ := k _ rfl T hT X
  refine ⟨t, ?_, q⟩
  have h1 := X.bastoreOut hexec (by rw [hT]; exact hP q0 _ ha) ((hK.2 t0 _ ht).1 n (fun j => .int (f j))) (j := i) (by show (i < 0 ∨ (arrV _ _ _).slots.size ≤ _); rw [arrV_size]; exact Classical.byContradiction hout) (g := F0 m pc ls (.int x :: .int i :: .ref a :: rest)) rfl (rest := rest) rfl (by rw [hb]; exact hdg) t
  simp only [arrV_size] at h1
  exact h1 st
theorem vx_zaldZ {D : va_G} {cl : List vw_C} {ws : va_W} {tys : List (ClassId × FieldType)} {a : Nat} (hexec : p.tables.exec = Jvm.exec) (hb : c.code = cc) (hK : va_K D cl tys s) (hP : va_P D cl ws H) (q0 t0 : Nat) {cA : ClassId} {n : Nat} {f : Nat → Int32} (ha : ws[q0]? = some (a, .inl (cA, n, .inl f))) (ht : tys[t0]? = some (cA, .boolean)) {i : Int32} (hout : ¬ vp_in i n) (hdg : decode cc pc = .ok (.baload, 1))
    (k : ∀ tx : String, tx = (toString "Index " ++ toString i ++ toString " out of bounds for length " ++ toString n : String) → vx_Note p l e R s m args below meth c H locs cells slots Q (F0 m pc ls rest) "java/lang/ArrayIndexOutOfBoundsException" tx) : W p l e R s m args below meth c H locs cells slots Q (F0 m pc ls (.int i :: .ref a :: rest)) := by
  intro T hT X
  obtain ⟨t, st, q⟩ := k _ rfl T hT X
  refine ⟨t, ?_, q⟩
  have h1 := X.baloadOut hexec (by rw [hT]; exact hP q0 _ ha) ((hK.2 t0 _ ht).1 n (fun j => .int (f j))) (j := i) (by show (i < 0 ∨ (arrV _ _ _).slots.size ≤ _); rw [arrV_size]; exact Classical.byContradiction hout) (g := F0 m pc ls (.int i :: .ref a :: rest)) rfl (rest := rest) rfl (by rw [hb]; exact hdg) t
  simp only [arrV_size] at h1
  exact h1 st
theorem vx_zastZ {D : va_G} {cl : List vw_C} {ws : va_W} {tys : List (ClassId × FieldType)} {a : Nat} (hexec : p.tables.exec = Jvm.exec) (hb : c.code = cc) (hK : va_K D cl tys s) (hP : va_P D cl ws H) (q0 t0 : Nat) {cA : ClassId} {n : Nat} {f : Nat → Int32} (ha : ws[q0]? = some (a, .inl (cA, n, .inl f))) (ht : tys[t0]? = some (cA, .boolean)) {i : Int32} {x : Int32} (hout : ¬ vp_in i n) (hdg : decode cc pc = .ok (.bastore, 1))
    (k : ∀ tx : String, tx = (toString "Index " ++ toString i ++ toString " out of bounds for length " ++ toString n : String) → vx_Note p l e R s m args below meth c H locs cells slots Q (F0 m pc ls rest) "java/lang/ArrayIndexOutOfBoundsException" tx) : W p l e R s m args below meth c H locs cells slots Q (F0 m pc ls (.int x :: .int i :: .ref a :: rest)) := by
  intro T hT X
  obtain ⟨t, st, q⟩ := k _ rfl T hT X
  refine ⟨t, ?_, q⟩
  have h1 := X.bastoreOut hexec (by rw [hT]; exact hP q0 _ ha) ((hK.2 t0 _ ht).1 n (fun j => .int (f j))) (j := i) (by show (i < 0 ∨ (arrV _ _ _).slots.size ≤ _); rw [arrV_size]; exact Classical.byContradiction hout) (g := F0 m pc ls (.int x :: .int i :: .ref a :: rest)) rfl (rest := rest) rfl (by rw [hb]; exact hdg) t
  simp only [arrV_size] at h1
  exact h1 st
theorem vx_caldZ {D : va_G} {cl : List vw_C} {ws : va_W} {tys : List (ClassId × FieldType)} {a : Nat} (hexec : p.tables.exec = Jvm.exec) (hb : c.code = cc) (hK : va_K D cl tys s) (hP : va_P D cl ws H) (q0 t0 : Nat) {cA : ClassId} {n : Nat} {f : Nat → Int32} (ha : ws[q0]? = some (a, .inl (cA, n, .inl f))) (ht : tys[t0]? = some (cA, .char)) {i : Int32} (hout : ¬ vp_in i n) (hdg : decode cc pc = .ok (.caload, 1))
    (k : ∀ tx : String, tx = (toString "Index " ++ toString i ++ toString " out of bounds for length " ++ toString n : String) → vx_Note p l e R s m args below meth c H locs cells slots Q (F0 m pc ls rest) "java/lang/ArrayIndexOutOfBoundsException" tx) : W p l e R s m args below meth c H locs cells slots Q (F0 m pc ls (.int i :: .ref a :: rest)) := by
  intro T hT X
  obtain ⟨t, st, q⟩ := k _ rfl T hT X
  refine ⟨t, ?_, q⟩
  have h1 := X.caloadOut hexec (by rw [hT]; exact hP q0 _ ha) ((hK.2 t0 _ ht).1 n (fun j => .int (f j))) (j := i) (by show (i < 0 ∨ (arrV _ _ _).slots.size ≤ _); rw [arrV_size]; exact Classical.byContradiction hout) (g := F0 m pc ls (.int i :: .ref a :: rest)) rfl (rest := rest) rfl (by rw [hb]; exact hdg) t
  simp only [arrV_size] at h1
  exact h1 st
theorem vx_castZ {D : va_G} {cl : List vw_C} {ws : va_W} {tys : List (ClassId × FieldType)} {a : Nat} (hexec : p.tables.exec = Jvm.exec) (hb : c.code = cc) (hK : va_K D cl tys s) (hP : va_P D cl ws H) (q0 t0 : Nat) {cA : ClassId} {n : Nat} {f : Nat → Int32} (ha : ws[q0]? = some (a, .inl (cA, n, .inl f))) (ht : tys[t0]? = some (cA, .char)) {i : Int32} {x : Int32} (hout : ¬ vp_in i n) (hdg : decode cc pc = .ok (.castore, 1))
    (k : ∀ tx : String, tx = (toString "Index " ++ toString i ++ toString " out of bounds for length " ++ toString n : String) → vx_Note p l e R s m args below meth c H locs cells slots Q (F0 m pc ls rest) "java/lang/ArrayIndexOutOfBoundsException" tx) : W p l e R s m args below meth c H locs cells slots Q (F0 m pc ls (.int x :: .int i :: .ref a :: rest)) := by
  intro T hT X
  obtain ⟨t, st, q⟩ := k _ rfl T hT X
  refine ⟨t, ?_, q⟩
  have h1 := X.castoreOut hexec (by rw [hT]; exact hP q0 _ ha) ((hK.2 t0 _ ht).1 n (fun j => .int (f j))) (j := i) (by show (i < 0 ∨ (arrV _ _ _).slots.size ≤ _); rw [arrV_size]; exact Classical.byContradiction hout) (g := F0 m pc ls (.int x :: .int i :: .ref a :: rest)) rfl (rest := rest) rfl (by rw [hb]; exact hdg) t
  simp only [arrV_size] at h1
  exact h1 st
theorem vx_saldZ {D : va_G} {cl : List vw_C} {ws : va_W} {tys : List (ClassId × FieldType)} {a : Nat} (hexec : p.tables.exec = Jvm.exec) (hb : c.code = cc) (hK : va_K D cl tys s) (hP : va_P D cl ws H) (q0 t0 : Nat) {cA : ClassId} {n : Nat} {f : Nat → Int32} (ha : ws[q0]? = some (a, .inl (cA, n, .inl f))) (ht : tys[t0]? = some (cA, .short)) {i : Int32} (hout : ¬ vp_in i n) (hdg : decode cc pc = .ok (.saload, 1))
    (k : ∀ tx : String, tx = (toString "Index " ++ toString i ++ toString " out of bounds for length " ++ toString n : String) → vx_Note p l e R s m args below meth c H locs cells slots Q (F0 m pc ls rest) "java/lang/ArrayIndexOutOfBoundsException" tx) : W p l e R s m args below meth c H locs cells slots Q (F0 m pc ls (.int i :: .ref a :: rest)) := by
  intro T hT X
  obtain ⟨t, st, q⟩ := k _ rfl T hT X
  refine ⟨t, ?_, q⟩
  have h1 := X.saloadOut hexec (by rw [hT]; exact hP q0 _ ha) ((hK.2 t0 _ ht).1 n (fun j => .int (f j))) (j := i) (by show (i < 0 ∨ (arrV _ _ _).slots.size ≤ _); rw [arrV_size]; exact Classical.byContradiction hout) (g := F0 m pc ls (.int i :: .ref a :: rest)) rfl (rest := rest) rfl (by rw [hb]; exact hdg) t
  simp only [arrV_size] at h1
  exact h1 st
theorem vx_sastZ {D : va_G} {cl : List vw_C} {ws : va_W} {tys : List (ClassId × FieldType)} {a : Nat} (hexec : p.tables.exec = Jvm.exec) (hb : c.code = cc) (hK : va_K D cl tys s) (hP : va_P D cl ws H) (q0 t0 : Nat) {cA : ClassId} {n : Nat} {f : Nat → Int32} (ha : ws[q0]? = some (a, .inl (cA, n, .inl f))) (ht : tys[t0]? = some (cA, .short)) {i : Int32} {x : Int32} (hout : ¬ vp_in i n) (hdg : decode cc pc = .ok (.sastore, 1))
    (k : ∀ tx : String, tx = (toString "Index " ++ toString i ++ toString " out of bounds for length " ++ toString n : String) → vx_Note p l e R s m args below meth c H locs cells slots Q (F0 m pc ls rest) "java/lang/ArrayIndexOutOfBoundsException" tx) : W p l e R s m args below meth c H locs cells slots Q (F0 m pc ls (.int x :: .int i :: .ref a :: rest)) := by
  intro T hT X
  obtain ⟨t, st, q⟩ := k _ rfl T hT X
  refine ⟨t, ?_, q⟩
  have h1 := X.sastoreOut hexec (by rw [hT]; exact hP q0 _ ha) ((hK.2 t0 _ ht).1 n (fun j => .int (f j))) (j := i) (by show (i < 0 ∨ (arrV _ _ _).slots.size ≤ _); rw [arrV_size]; exact Classical.byContradiction hout) (g := F0 m pc ls (.int x :: .int i :: .ref a :: rest)) rfl (rest := rest) rfl (by rw [hb]; exact hdg) t
  simp only [arrV_size] at h1
  exact h1 st
theorem vx_laldZ {D : va_G} {cl : List vw_C} {ws : va_W} {tys : List (ClassId × FieldType)} {a : Nat} (hexec : p.tables.exec = Jvm.exec) (hb : c.code = cc) (hK : va_K D cl tys s) (hP : va_P D cl ws H) (q0 t0 : Nat) {cA : ClassId} {n : Nat} {f : Nat → Int64} (ha : ws[q0]? = some (a, .inl (cA, n, .inr (.inl f)))) (ht : tys[t0]? = some (cA, .long)) {i : Int32} (hout : ¬ vp_in i n) (hdg : decode cc pc = .ok (.laload, 1))
    (k : ∀ tx : String, tx = (toString "Index " ++ toString i ++ toString " out of bounds for length " ++ toString n : String) → vx_Note p l e R s m args below meth c H locs cells slots Q (F0 m pc ls rest) "java/lang/ArrayIndexOutOfBoundsException" tx) : W p l e R s m args below meth c H locs cells slots Q (F0 m pc ls (.int i :: .ref a :: rest)) := by
  intro T hT X
  obtain ⟨t, st, q⟩ := k _ rfl T hT X
  refine ⟨t, ?_, q⟩
  have h1 := X.laloadOut hexec (by rw [hT]; exact hP q0 _ ha) ((hK.2 t0 _ ht).1 n (fun j => .long (f j))) (j := i) (by show (i < 0 ∨ (arrV _ _ _).slots.size ≤ _); rw [arrV_size]; exact Classical.byContradiction hout) (g := F0 m pc ls (.int i :: .ref a :: rest)) rfl (rest := rest) rfl (by rw [hb]; exact hdg) t
  simp only [arrV_size] at h1
  exact h1 st
theorem vx_lastZ {D : va_G} {cl : List vw_C} {ws : va_W} {tys : List (ClassId × FieldType)} {a : Nat} (hexec : p.tables.exec = Jvm.exec) (hb : c.code = cc) (hK : va_K D cl tys s) (hP : va_P D cl ws H) (q0 t0 : Nat) {cA : ClassId} {n : Nat} {f : Nat → Int64} (ha : ws[q0]? = some (a, .inl (cA, n, .inr (.inl f)))) (ht : tys[t0]? = some (cA, .long)) {i : Int32} {x : Int64} (hout : ¬ vp_in i n) (hdg : decode cc pc = .ok (.lastore, 1))
    (k : ∀ tx : String, tx = (toString "Index " ++ toString i ++ toString " out of bounds for length " ++ toString n : String) → vx_Note p l e R s m args below meth c H locs cells slots Q (F0 m pc ls rest) "java/lang/ArrayIndexOutOfBoundsException" tx) : W p l e R s m args below meth c H locs cells slots Q (F0 m pc ls (.long x :: .int i :: .ref a :: rest)) := by
  intro T hT X
  obtain ⟨t, st, q⟩ := k _ rfl T hT X
  refine ⟨t, ?_, q⟩
  have h1 := X.lastoreOut hexec (by rw [hT]; exact hP q0 _ ha) ((hK.2 t0 _ ht).1 n (fun j => .long (f j))) (j := i) (by show (i < 0 ∨ (arrV _ _ _).slots.size ≤ _); rw [arrV_size]; exact Classical.byContradiction hout) (g := F0 m pc ls (.long x :: .int i :: .ref a :: rest)) rfl (rest := rest) rfl (by rw [hb]; exact hdg) t
  simp only [arrV_size] at h1
  exact h1 st
theorem vx_faldZ {D : va_G} {cl : List vw_C} {ws : va_W} {tys : List (ClassId × FieldType)} {a : Nat} (hexec : p.tables.exec = Jvm.exec) (hb : c.code = cc) (hK : va_K D cl tys s) (hP : va_P D cl ws H) (q0 t0 : Nat) {cA : ClassId} {n : Nat} {f : Nat → UInt32} (ha : ws[q0]? = some (a, .inl (cA, n, .inr (.inr (.inl f))))) (ht : tys[t0]? = some (cA, .float)) {i : Int32} (hout : ¬ vp_in i n) (hdg : decode cc pc = .ok (.faload, 1))
    (k : ∀ tx : String, tx = (toString "Index " ++ toString i ++ toString " out of bounds for length " ++ toString n : String) → vx_Note p l e R s m args below meth c H locs cells slots Q (F0 m pc ls rest) "java/lang/ArrayIndexOutOfBoundsException" tx) : W p l e R s m args below meth c H locs cells slots Q (F0 m pc ls (.int i :: .ref a :: rest)) := by
  intro T hT X
  obtain ⟨t, st, q⟩ := k _ rfl T hT X
  refine ⟨t, ?_, q⟩
  have h1 := X.faloadOut hexec (by rw [hT]; exact hP q0 _ ha) ((hK.2 t0 _ ht).1 n (fun j => .float (f j))) (j := i) (by show (i < 0 ∨ (arrV _ _ _).slots.size ≤ _); rw [arrV_size]; exact Classical.byContradiction hout) (g := F0 m pc ls (.int i :: .ref a :: rest)) rfl (rest := rest) rfl (by rw [hb]; exact hdg) t
  simp only [arrV_size] at h1
  exact h1 st
theorem vx_fastZ {D : va_G} {cl : List vw_C} {ws : va_W} {tys : List (ClassId × FieldType)} {a : Nat} (hexec : p.tables.exec = Jvm.exec) (hb : c.code = cc) (hK : va_K D cl tys s) (hP : va_P D cl ws H) (q0 t0 : Nat) {cA : ClassId} {n : Nat} {f : Nat → UInt32} (ha : ws[q0]? = some (a, .inl (cA, n, .inr (.inr (.inl f))))) (ht : tys[t0]? = some (cA, .float)) {i : Int32} {x : UInt32} (hout : ¬ vp_in i n) (hdg : decode cc pc = .ok (.fastore, 1))
    (k : ∀ tx : String, tx = (toString "Index " ++ toString i ++ toString " out of bounds for length " ++ toString n : String) → vx_Note p l e R s m args below meth c H locs cells slots Q (F0 m pc ls rest) "java/lang/ArrayIndexOutOfBoundsException" tx) : W p l e R s m args below meth c H locs cells slots Q (F0 m pc ls (.float x :: .int i :: .ref a :: rest)) := by
  intro T hT X
  obtain ⟨t, st, q⟩ := k _ rfl T hT X
  refine ⟨t, ?_, q⟩
  have h1 := X.fastoreOut hexec (by rw [hT]; exact hP q0 _ ha) ((hK.2 t0 _ ht).1 n (fun j => .float (f j))) (j := i) (by show (i < 0 ∨ (arrV _ _ _).slots.size ≤ _); rw [arrV_size]; exact Classical.byContradiction hout) (g := F0 m pc ls (.float x :: .int i :: .ref a :: rest)) rfl (rest := rest) rfl (by rw [hb]; exact hdg) t
  simp only [arrV_size] at h1
  exact h1 st
theorem vx_daldZ {D : va_G} {cl : List vw_C} {ws : va_W} {tys : List (ClassId × FieldType)} {a : Nat} (hexec : p.tables.exec = Jvm.exec) (hb : c.code = cc) (hK : va_K D cl tys s) (hP : va_P D cl ws H) (q0 t0 : Nat) {cA : ClassId} {n : Nat} {f : Nat → UInt64} (ha : ws[q0]? = some (a, .inl (cA, n, .inr (.inr (.inr (.inl f)))))) (ht : tys[t0]? = some (cA, .double)) {i : Int32} (hout : ¬ vp_in i n) (hdg : decode cc pc = .ok (.daload, 1))
    (k : ∀ tx : String, tx = (toString "Index " ++ toString i ++ toString " out of bounds for length " ++ toString n : String) → vx_Note p l e R s m args below meth c H locs cells slots Q (F0 m pc ls rest) "java/lang/ArrayIndexOutOfBoundsException" tx) : W p l e R s m args below meth c H locs cells slots Q (F0 m pc ls (.int i :: .ref a :: rest)) := by
  intro T hT X
  obtain ⟨t, st, q⟩ := k _ rfl T hT X
  refine ⟨t, ?_, q⟩
  have h1 := X.daloadOut hexec (by rw [hT]; exact hP q0 _ ha) ((hK.2 t0 _ ht).1 n (fun j => .double (f j))) (j := i) (by show (i < 0 ∨ (arrV _ _ _).slots.size ≤ _); rw [arrV_size]; exact Classical.byContradiction hout) (g := F0 m pc ls (.int i :: .ref a :: rest)) rfl (rest := rest) rfl (by rw [hb]; exact hdg) t
  simp only [arrV_size] at h1
  exact h1 st
theorem vx_dastZ {D : va_G} {cl : List vw_C} {ws : va_W} {tys : List (ClassId × FieldType)} {a : Nat} (hexec : p.tables.exec = Jvm.exec) (hb : c.code = cc) (hK : va_K D cl tys s) (hP : va_P D cl ws H) (q0 t0 : Nat) {cA : ClassId} {n : Nat} {f : Nat → UInt64} (ha : ws[q0]? = some (a, .inl (cA, n, .inr (.inr (.inr (.inl f)))))) (ht : tys[t0]? = some (cA, .double)) {i : Int32} {x : UInt64} (hout : ¬ vp_in i n) (hdg : decode cc pc = .ok (.dastore, 1))
    (k : ∀ tx : String, tx = (toString "Index " ++ toString i ++ toString " out of bounds for length " ++ toString n : String) → vx_Note p l e R s m args below meth c H locs cells slots Q (F0 m pc ls rest) "java/lang/ArrayIndexOutOfBoundsException" tx) : W p l e R s m args below meth c H locs cells slots Q (F0 m pc ls (.double x :: .int i :: .ref a :: rest)) := by
  intro T hT X
  obtain ⟨t, st, q⟩ := k _ rfl T hT X
  refine ⟨t, ?_, q⟩
  have h1 := X.dastoreOut hexec (by rw [hT]; exact hP q0 _ ha) ((hK.2 t0 _ ht).1 n (fun j => .double (f j))) (j := i) (by show (i < 0 ∨ (arrV _ _ _).slots.size ≤ _); rw [arrV_size]; exact Classical.byContradiction hout) (g := F0 m pc ls (.double x :: .int i :: .ref a :: rest)) rfl (rest := rest) rfl (by rw [hb]; exact hdg) t
  simp only [arrV_size] at h1
  exact h1 st
theorem vx_arraylengthN (hexec : p.tables.exec = Jvm.exec) (hb : c.code = cc) (hdg : decode cc pc = .ok (.arraylength, 1)) (k : vx_NoteN p l e R s m args below meth c H locs cells slots Q (F0 m pc ls rest)) : W p l e R s m args below meth c H locs cells slots Q (F0 m pc ls (.null :: rest)) := by
  intro T hT X
  obtain ⟨t, st, q⟩ := k T hT X
  exact ⟨t, X.arraylengthNull hexec (g := F0 m pc ls (.null :: rest)) rfl (rest := rest) rfl (by rw [hb]; exact hdg) t st, q⟩
theorem vx_ialoadN (hexec : p.tables.exec = Jvm.exec) (hb : c.code = cc) {i : Int32} (hdg : decode cc pc = .ok (.iaload, 1)) (k : vx_NoteN p l e R s m args below meth c H locs cells slots Q (F0 m pc ls rest)) : W p l e R s m args below meth c H locs cells slots Q (F0 m pc ls (.int i :: .null :: rest)) := by
  intro T hT X
  obtain ⟨t, st, q⟩ := k T hT X
  exact ⟨t, X.ialoadNull hexec (g := F0 m pc ls (.int i :: .null :: rest)) rfl (rest := rest) rfl (by rw [hb]; exact hdg) t st, q⟩
theorem vx_laloadN (hexec : p.tables.exec = Jvm.exec) (hb : c.code = cc) {i : Int32} (hdg : decode cc pc = .ok (.laload, 1)) (k : vx_NoteN p l e R s m args below meth c H locs cells slots Q (F0 m pc ls rest)) : W p l e R s m args below meth c H locs cells slots Q (F0 m pc ls (.int i :: .null :: rest)) := by
  intro T hT X
  obtain ⟨t, st, q⟩ := k T hT X
  exact ⟨t, X.laloadNull hexec (g := F0 m pc ls (.int i :: .null :: rest)) rfl (rest := rest) rfl (by rw [hb]; exact hdg) t st, q⟩
theorem vx_faloadN (hexec : p.tables.exec = Jvm.exec) (hb : c.code = cc) {i : Int32} (hdg : decode cc pc = .ok (.faload, 1)) (k : vx_NoteN p l e R s m args below meth c H locs cells slots Q (F0 m pc ls rest)) : W p l e R s m args below meth c H locs cells slots Q (F0 m pc ls (.int i :: .null :: rest)) := by
  intro T hT X
  obtain ⟨t, st, q⟩ := k T hT X
  exact ⟨t, X.faloadNull hexec (g := F0 m pc ls (.int i :: .null :: rest)) rfl (rest := rest) rfl (by rw [hb]; exact hdg) t st, q⟩
theorem vx_daloadN (hexec : p.tables.exec = Jvm.exec) (hb : c.code = cc) {i : Int32} (hdg : decode cc pc = .ok (.daload, 1)) (k : vx_NoteN p l e R s m args below meth c H locs cells slots Q (F0 m pc ls rest)) : W p l e R s m args below meth c H locs cells slots Q (F0 m pc ls (.int i :: .null :: rest)) := by
  intro T hT X
  obtain ⟨t, st, q⟩ := k T hT X
  exact ⟨t, X.daloadNull hexec (g := F0 m pc ls (.int i :: .null :: rest)) rfl (rest := rest) rfl (by rw [hb]; exact hdg) t st, q⟩
theorem vx_aaloadN (hexec : p.tables.exec = Jvm.exec) (hb : c.code = cc) {i : Int32} (hdg : decode cc pc = .ok (.aaload, 1)) (k : vx_NoteN p l e R s m args below meth c H locs cells slots Q (F0 m pc ls rest)) : W p l e R s m args below meth c H locs cells slots Q (F0 m pc ls (.int i :: .null :: rest)) := by
  intro T hT X
  obtain ⟨t, st, q⟩ := k T hT X
  exact ⟨t, X.aaloadNull hexec (g := F0 m pc ls (.int i :: .null :: rest)) rfl (rest := rest) rfl (by rw [hb]; exact hdg) t st, q⟩
theorem vx_baloadN (hexec : p.tables.exec = Jvm.exec) (hb : c.code = cc) {i : Int32} (hdg : decode cc pc = .ok (.baload, 1)) (k : vx_NoteN p l e R s m args below meth c H locs cells slots Q (F0 m pc ls rest)) : W p l e R s m args below meth c H locs cells slots Q (F0 m pc ls (.int i :: .null :: rest)) := by
  intro T hT X
  obtain ⟨t, st, q⟩ := k T hT X
  exact ⟨t, X.baloadNull hexec (g := F0 m pc ls (.int i :: .null :: rest)) rfl (rest := rest) rfl (by rw [hb]; exact hdg) t st, q⟩
theorem vx_caloadN (hexec : p.tables.exec = Jvm.exec) (hb : c.code = cc) {i : Int32} (hdg : decode cc pc = .ok (.caload, 1)) (k : vx_NoteN p l e R s m args below meth c H locs cells slots Q (F0 m pc ls rest)) : W p l e R s m args below meth c H locs cells slots Q (F0 m pc ls (.int i :: .null :: rest)) := by
  intro T hT X
  obtain ⟨t, st, q⟩ := k T hT X
  exact ⟨t, X.caloadNull hexec (g := F0 m pc ls (.int i :: .null :: rest)) rfl (rest := rest) rfl (by rw [hb]; exact hdg) t st, q⟩
theorem vx_saloadN (hexec : p.tables.exec = Jvm.exec) (hb : c.code = cc) {i : Int32} (hdg : decode cc pc = .ok (.saload, 1)) (k : vx_NoteN p l e R s m args below meth c H locs cells slots Q (F0 m pc ls rest)) : W p l e R s m args below meth c H locs cells slots Q (F0 m pc ls (.int i :: .null :: rest)) := by
  intro T hT X
  obtain ⟨t, st, q⟩ := k T hT X
  exact ⟨t, X.saloadNull hexec (g := F0 m pc ls (.int i :: .null :: rest)) rfl (rest := rest) rfl (by rw [hb]; exact hdg) t st, q⟩
theorem vx_iastoreN (hexec : p.tables.exec = Jvm.exec) (hb : c.code = cc) {x : Int32} {i : Int32} (hdg : decode cc pc = .ok (.iastore, 1)) (k : vx_NoteN p l e R s m args below meth c H locs cells slots Q (F0 m pc ls rest)) : W p l e R s m args below meth c H locs cells slots Q (F0 m pc ls (.int x :: .int i :: .null :: rest)) := by
  intro T hT X
  obtain ⟨t, st, q⟩ := k T hT X
  exact ⟨t, X.iastoreNull hexec (g := F0 m pc ls (.int x :: .int i :: .null :: rest)) rfl (rest := rest) rfl (by rw [hb]; exact hdg) t st, q⟩
theorem vx_lastoreN (hexec : p.tables.exec = Jvm.exec) (hb : c.code = cc) {x : Int64} {i : Int32} (hdg : decode cc pc = .ok (.lastore, 1)) (k : vx_NoteN p l e R s m args below meth c H locs cells slots Q (F0 m pc ls rest)) : W p l e R s m args below meth c H locs cells slots Q (F0 m pc ls (.long x :: .int i :: .null :: rest)) := by
  intro T hT X
  obtain ⟨t, st, q⟩ := k T hT X
  exact ⟨t, X.lastoreNull hexec (g := F0 m pc ls (.long x :: .int i :: .null :: rest)) rfl (rest := rest) rfl (by rw [hb]; exact hdg) t st, q⟩
theorem vx_fastoreN (hexec : p.tables.exec = Jvm.exec) (hb : c.code = cc) {x : UInt32} {i : Int32} (hdg : decode cc pc = .ok (.fastore, 1)) (k : vx_NoteN p l e R s m args below meth c H locs cells slots Q (F0 m pc ls rest)) : W p l e R s m args below meth c H locs cells slots Q (F0 m pc ls (.float x :: .int i :: .null :: rest)) := by
  intro T hT X
  obtain ⟨t, st, q⟩ := k T hT X
  exact ⟨t, X.fastoreNull hexec (g := F0 m pc ls (.float x :: .int i :: .null :: rest)) rfl (rest := rest) rfl (by rw [hb]; exact hdg) t st, q⟩
theorem vx_dastoreN (hexec : p.tables.exec = Jvm.exec) (hb : c.code = cc) {x : UInt64} {i : Int32} (hdg : decode cc pc = .ok (.dastore, 1)) (k : vx_NoteN p l e R s m args below meth c H locs cells slots Q (F0 m pc ls rest)) : W p l e R s m args below meth c H locs cells slots Q (F0 m pc ls (.double x :: .int i :: .null :: rest)) := by
  intro T hT X
  obtain ⟨t, st, q⟩ := k T hT X
  exact ⟨t, X.dastoreNull hexec (g := F0 m pc ls (.double x :: .int i :: .null :: rest)) rfl (rest := rest) rfl (by rw [hb]; exact hdg) t st, q⟩
theorem vx_bastoreN (hexec : p.tables.exec = Jvm.exec) (hb : c.code = cc) {x : Int32} {i : Int32} (hdg : decode cc pc = .ok (.bastore, 1)) (k : vx_NoteN p l e R s m args below meth c H locs cells slots Q (F0 m pc ls rest)) : W p l e R s m args below meth c H locs cells slots Q (F0 m pc ls (.int x :: .int i :: .null :: rest)) := by
  intro T hT X
  obtain ⟨t, st, q⟩ := k T hT X
  exact ⟨t, X.bastoreNull hexec (g := F0 m pc ls (.int x :: .int i :: .null :: rest)) rfl (rest := rest) rfl (by rw [hb]; exact hdg) t st, q⟩
theorem vx_castoreN (hexec : p.tables.exec = Jvm.exec) (hb : c.code = cc) {x : Int32} {i : Int32} (hdg : decode cc pc = .ok (.castore, 1)) (k : vx_NoteN p l e R s m args below meth c H locs cells slots Q (F0 m pc ls rest)) : W p l e R s m args below meth c H locs cells slots Q (F0 m pc ls (.int x :: .int i :: .null :: rest)) := by
  intro T hT X
  obtain ⟨t, st, q⟩ := k T hT X
  exact ⟨t, X.castoreNull hexec (g := F0 m pc ls (.int x :: .int i :: .null :: rest)) rfl (rest := rest) rfl (by rw [hb]; exact hdg) t st, q⟩
theorem vx_sastoreN (hexec : p.tables.exec = Jvm.exec) (hb : c.code = cc) {x : Int32} {i : Int32} (hdg : decode cc pc = .ok (.sastore, 1)) (k : vx_NoteN p l e R s m args below meth c H locs cells slots Q (F0 m pc ls rest)) : W p l e R s m args below meth c H locs cells slots Q (F0 m pc ls (.int x :: .int i :: .null :: rest)) := by
  intro T hT X
  obtain ⟨t, st, q⟩ := k T hT X
  exact ⟨t, X.sastoreNull hexec (g := F0 m pc ls (.int x :: .int i :: .null :: rest)) rfl (rest := rest) rfl (by rw [hb]; exact hdg) t st, q⟩
theorem vx_invokeN {own C : String} {index maxL : Nat} {y : MethodName} {bytes : ByteArray} {ret : Option FieldType} (hexec : p.tables.exec = Jvm.exec) (hb : c.code = cc) (hown : s.vm.findClass own = some m.cls) (hlink : (Cond.methodLink own index y).before args s = true) (hinst : (Cond.instanceMethod y).before args s = true) (hcode : (Cond.code y bytes maxL ret).before args s = true) (hsel : (Cond.selects C y y).before args s = true)
    (hx : y.cls ≠ "java/lang/invoke/MethodHandle" ∧ y.cls ≠ "java/lang/invoke/VarHandle") {As : List Value} (hlen : (parseMethodDescriptor y.desc).map (fun d => d.parameters.length) = some As.length) (hdg : decode cc pc = .ok (.invokevirtual index, 3))
    (k : vx_NoteN p l e R s m args below meth c H locs cells slots Q (F0 m pc ls rest)) {st0 : List Value} (hst : st0 = As.reverse ++ .null :: rest) : W p l e R s m args below meth c H locs cells slots Q (F0 m pc ls st0) := by
  intro T hT X
  obtain ⟨r0, r, hn, hrm, hstR, hsigR⟩ := va_Decl.of hinst hcode
  obtain ⟨c2, r2, m2, q1, q2, q3, q4, kP, hkP, hkPi⟩ := Cond.selects_spec hsel
  cases hn.symm.trans q3
  have hl9 : As.length = r.sig.parameters.length := by
    rw [hsigR] at hlen
    exact (Option.some.inj hlen).symm
  obtain ⟨vm', X1, st1⟩ := X.invokevirtualNull hexec hown hlink hn hrm hstR hkP hkPi hx (g := F0 m pc ls st0) rfl (argsL := As) (rest := rest) hl9 hst (by rw [hb]; exact hdg)
  obtain ⟨t, st, q⟩ := k (T.setVm vm') hT X1
  exact ⟨t, st1 t st, q⟩
theorem vx_newarrayZ {atype : ArrayType} (hexec : p.tables.exec = Jvm.exec) (hb : c.code = cc) {n : Int32} (h0 : n < 0) (hdg : decode cc pc = .ok (.newarray atype, 2)) (k : ∀ tx : String, tx = toString n → vx_Note p l e R s m args below meth c H locs cells slots Q (F0 m pc ls rest) "java/lang/NegativeArraySizeException" tx) : W p l e R s m args below meth c H locs cells slots Q (F0 m pc ls (.int n :: rest)) := by
  intro T hT X
  obtain ⟨t, st, q⟩ := k _ rfl T hT X
  exact ⟨t, X.newarrayNegative hexec (g := F0 m pc ls (.int n :: rest)) rfl h0 (rest := rest) rfl (by rw [hb]; exact hdg) t st, q⟩
end
end VXM
/-! ===== END ===== -/
/-! ===== BEGIN an exception as an object: made, kept, thrown later (no traces kept) ===== -/
section VXK
variable {p : Program} {l : Launch} {e : Env} {R : Room} {s : State} {m₀ : MethodId} {args : Array Value} {below : List Frame} {meth : Method} {c : Code} {W : State} {locs : List Loc} {cells slots : Nat}
set_option maxHeartbeats 1000000 in
theorem vx_ctorMadeS (X : Stand p l e R s m₀ args below meth c W locs cells slots) (hexec : p.tables.exec = Jvm.exec) (htr : e.platform.stackTraces = false) {own cls : String} {names : List String} {ic : Nat}
    (hown : s.vm.findClass own = some m₀.cls) (hcls : Bundle.fit cls = true) (hnames : ∀ n ∈ names, Bundle.fit n = true)
    (h : ∀ a ∈ Bundle.ownAtoms own ic cls names, a.before args s = true)
    (hlocs : ∀ x ∈ locs, ∀ cell, s.heap[x.base]? = some cell → cell.vm.isStatics = false)
    {a : Addr} {cX : ClassId} {kX : Class} (hfoundX : s.vm.findClass cls = some cX) (hkX : s.vm.classes[cX]? = some kX) (hcell : W.heap[a]? = some (freshCell cX kX)) (hnew : s.heap.size ≤ a)
    {msg : Value} (hmsg : msg.isRef = true)
    {g : JFrame} (hg : g.method = m₀) (hsize : g.locals.size = c.maxLocals) {rest : List Value} (hstack : g.stack = msg :: .ref a :: .ref a :: rest)
    (hd6 : decode c.code g.pc = .ok (.invokespecial ic, 3))
    (hRframes : names.length + 3 < R.frames) (hRlocals : 2 * g.monitorRoom + ((Value.ref a :: rest).map fun v => v.category).sum + (13 * (names.length + 1) + 42) ≤ R.locals) :
    ∃ (V : State) (ce : Cell) (L : List Loc), Stand p l e R s m₀ args below meth c (V.setCell a ce) (locs ++ L) cells slots ∧ (∀ y ∈ L, y.base = a) ∧ a < V.heap.size ∧ ce.cls = cX ∧ ce.vm = .none ∧
      ∀ target, Steps p.tables e below ((V.setCell a ce).setTop { g with stack := .ref a :: rest, pc := g.pc + 3 }) target → Steps p.tables e below (W.setTop g) target := by
  have howns : e.platform.frameOwnsMonitors = true := by rw [X.admits.platform]
  have hfin : e.platform.finalization = false := by rw [X.admits.platform]
  have hpl : e.platform.magicAccessors = ({} : Platform).magicAccessors := by rw [X.admits.platform]
  have a' : ∀ x, x ∈ Bundle.ownAtoms own ic cls names → x.holds args s none s [] = true := fun x hx => h x hx
  obtain ⟨T, Z0, L, -, Y⟩ := ThrowableC.of_atoms (args := args) howns hfin hpl (fun x hx => h x (by simp [Bundle.ownAtoms, hx]))
  obtain ⟨Z, M, LZ, LM, hnZ⟩ := Init0T.ofS_atoms (args := args) hpl L Y (fun x hx => h x (by simp [Bundle.ownAtoms, hx]))
  obtain ⟨P1, Ps, hlen, L1, hL, hP1m, hlink1, hlink⟩ := Bundle.chainS (args := args) hpl hnZ names cls hcls hnames (fun x hx => h x (by simp [Bundle.ownAtoms, hx]))
  have hfound : s.vm.findClass cls = some P1.m.cls := findClass_of_methodNamed hP1m
  cases Option.some.inj (hfoundX.symm.trans hfound)
  obtain ⟨c1, kX', hc1, hk, hord, -, -, hn6⟩ := Cond.instantiable_spec (a' (.instantiable cls 6) (by simp [Bundle.ownAtoms]))
  cases Option.some.inj (hc1.symm.trans hfound)
  cases Option.some.inj (hkX.symm.trans hk)
  have hsel0 : selectMethod e.platform s.vm P1.m.cls T.fill0 = .method T.fill0 := by
    obtain ⟨c2, r2, m2, q1, q2, q3, q4, -⟩ := Cond.selects_spec (a' (.selects cls Bundle.tFill0 Bundle.tFill0) (by simp [Bundle.ownAtoms]))
    cases Option.some.inj (q1.symm.trans hfound)
    cases Option.some.inj (q2.symm.trans (State.methodFound?_of_named Y.fill0 (by decide)))
    cases Option.some.inj (q3.symm.trans Y.fill0)
    rw [Launch.admits_selectMethod X.admits]; exact q4
  have hselF : selectMethod e.platform s.vm P1.m.cls T.fill = .method T.fill := by
    obtain ⟨c2, r2, m2, q1, q2, q3, q4, -⟩ := Cond.selects_spec (a' (.selects cls Bundle.tFill Bundle.tFill) (by simp [Bundle.ownAtoms]))
    cases Option.some.inj (q1.symm.trans hfound)
    cases Option.some.inj (q2.symm.trans (State.methodFound?_of_named Y.fill (by decide)))
    cases Option.some.inj (q3.symm.trans Y.fill)
    rw [Launch.admits_selectMethod X.admits]; exact q4
  obtain ⟨cellS0, hcS0, hiss⟩ := Y.statics
  obtain ⟨u0, hu0⟩ := Cond.staticRefV Y.unassigned L.unassignedStatic L.statics hcS0 hiss (a' (.isRef (.static Bundle.tN "UNASSIGNED_STACK" Bundle.steD)) (by simp [Bundle.ownAtoms]))
  obtain ⟨sen, hsen⟩ := Cond.staticRefV Y.sentinel L.sentinelStatic L.statics hcS0 hiss (a' (.isRef (.static Bundle.tN "SUPPRESSED_SENTINEL" Bundle.listD)) (by simp [Bundle.ownAtoms]))
  obtain ⟨ci198, i198, fB, hk198, hg198, ha198, hsB, -, hnB, htB, hffB⟩ := Cond.ownField (t := .object "java/lang/Object") Y.found L.cls (by decide +kernel) (a' (.fieldLink Bundle.tN 198 Bundle.tN "backtrace" "Ljava/lang/Object;") (by simp [Bundle.ownAtoms])) (a' (.lays Bundle.tN Bundle.tN "backtrace" "Ljava/lang/Object;") (by simp [Bundle.ownAtoms])) e.platform hpl
  obtain ⟨cellS, hcS', heS, -, hkeep⟩ := X.same.2.2.2.2.2 T.aS cellS0 hcS0
  have hcellS : W.heap[T.aS]? = some cellS := hcS'
  have hout' : ∀ i, (⟨T.aS, i⟩ : Loc) ∉ locs := fun i hmem => by
    have := hlocs _ hmem cellS0 hcS0
    rw [hiss] at this; cases this
  have hknownS : cellS.vm ≠ .unknown := by
    rw [heS]; intro hu
    rw [show cellS0.vm = .unknown from hu] at hiss
    cases hiss
  have hneS : T.aS ≠ a := Nat.ne_of_lt (Nat.lt_of_lt_of_le (Array.getElem?_eq_some_iff.mp hcS0).1 hnew)
  obtain ⟨iM, hffM⟩ := Y.msg
  obtain ⟨tyC, dC, hdC, hdnC⟩ := Cond.laysAt hfound hk Y.cause (a' (.lays cls Bundle.tN "cause" "Ljava/lang/Throwable;") (by simp [Bundle.ownAtoms]))
  obtain ⟨tyS, dS, hdS, hdnS⟩ := Cond.laysAt hfound hk Y.stack (a' (.lays cls Bundle.tN "stackTrace" Bundle.steD) (by simp [Bundle.ownAtoms]))
  obtain ⟨tyP, dP, hdP, hdnP⟩ := Cond.laysAt hfound hk Y.supp (a' (.lays cls Bundle.tN "suppressedExceptions" Bundle.listD) (by simp [Bundle.ownAtoms]))
  obtain ⟨tyM, dM, hdM, hdnM⟩ := Cond.laysAt hfound hk hffM (a' (.lays cls Bundle.tN "detailMessage" "Ljava/lang/String;") (by simp [Bundle.ownAtoms]))
  obtain ⟨tyB, dB, hdB, hdnB⟩ := Cond.laysAt hfound hk hffB (a' (.lays cls Bundle.tN "backtrace" "Ljava/lang/Object;") (by simp [Bundle.ownAtoms]))
  have bC := Cond.laysApart hdB hdC hdnB hdnC (by rw [hnB, Y.causeName]; decide)
  have bS := Cond.laysApart hdB hdS hdnB hdnS (by rw [hnB, Y.stackName]; decide)
  have bP := Cond.laysApart hdB hdP hdnB hdnP (by rw [hnB, Y.suppName]; decide)
  have hskip : SkipFacts T e.platform s (fun u => u) u0 ((preparedCellV T.toThrowableT (freshCell P1.m.cls kX) a u0 sen).withEntry W.cur) :=
    ⟨{ ci198 := ci198, i198 := i198, fBack := fB }, ⟨hk198, hg198, ha198, hsB⟩, by
      have := fresh_default (c := P1.m.cls) tyB
      rw [htB] at this
      simpa [preparedCellV, Cell.setSlot, Cell.withEntry, Array.getElem?_setIfInBounds, bC, bS, bP, bC.symm, bS.symm, bP.symm, defaultValue] using this, fun _ _ => rfl⟩
  obtain ⟨tm, methC, cdC, kC, vm₁, hnC, -, -, -, -, -, -, -, hW₁, st1⟩ := Steps.initColdS (tb := p.tables) (e := e) (below := below) (s := s) (U := W) X.here hexec X.warmed hpl hown (t := Bundle.initS cls) rfl rfl (Bundle.fit_spec hcls).2
    (a' (.methodLink own ic (Bundle.initS cls)) (by simp [Bundle.ownAtoms])) (h (.instanceMethod (Bundle.initS cls)) (by cases names <;> simp [Bundle.ownAtoms, Bundle.chainSAtoms, Bundle.passSAtoms])) (bytes := Bundle.six) (maxL := 2) (h (.code (Bundle.initS cls) Bundle.six 2 none) (by cases names <;> simp [Bundle.ownAtoms, Bundle.chainSAtoms, Bundle.passSAtoms]))
    (f := g) hg (a := a) (msg := msg) (rest := .ref a :: rest) hstack hd6
  cases Option.some.inj (hnC.symm.trans hP1m)
  have X₁ := X.noted hW₁
  obtain ⟨vm₂, X₂, st2⟩ := X₁.ctorMessageOffV hexec (g := { g with stack := .ref a :: rest }) hg hsize T L Z LZ M LM (P1 :: Ps)
    (fun P hP => by rcases List.mem_cons.mp hP with rfl | hP; exact L1; exact hL P hP) ⟨hlink1, hlink⟩ (u0 := u0) (sen := sen) (self := a) hmsg (cell := freshCell P1.m.cls kX) (cellS := cellS)
    hcell (fun _ => by simp) (by simp) rfl rfl hsel0 hselF hcellS hneS hknownS (by rw [hkeep _ (hout' _)]; exact hu0) (by rw [hkeep _ (hout' _)]; exact hsen)
    (Takes.of_laid hk hord tyC (by rw [Y.causeType]; rfl)) (Takes.of_laid hk hord tyS (by rw [Y.stackType]; exact fits_refV_array _ u0)) (Takes.of_laid hk hord tyP (by rw [Y.suppType]; exact fits_refV_object _ sen))
    (Takes.of_laid hk hord tyM (by rw [Y.msgType]; exact fits_refV_object _ ⟨msg, hmsg⟩)) Y.objLocals hskip htr [] hd6
    (by simp only [List.length_cons, hlen]; omega) (by simp only [List.length_cons, hlen]; exact hRlocals)
  have hlt : a < ((W.setVm vm₁).setVm vm₂).heap.size := (Array.getElem?_eq_some_iff.mp hcell).1
  refine ⟨(W.setVm vm₁).setVm vm₂, _, _, X₂, fun y hy => ?_, hlt, rfl, rfl, fun target hwalk => st1 _ (fun acts => ?_)⟩
  · simp only [List.mem_cons, List.not_mem_nil, or_false] at hy
    rcases hy with rfl | rfl | rfl | rfl | rfl <;> rfl
  · rw [doInvoke_state]
    exact st2 _ hwalk
set_option maxHeartbeats 1000000 in
theorem vx_ctorMade0 (X : Stand p l e R s m₀ args below meth c W locs cells slots) (hexec : p.tables.exec = Jvm.exec) (htr : e.platform.stackTraces = false) {own cls : String} {names : List String} {ic : Nat}
    (hown : s.vm.findClass own = some m₀.cls) (hcls : Bundle.fit cls = true) (hnames : ∀ n ∈ names, Bundle.fit n = true)
    (h : ∀ a ∈ Bundle.ownAtoms0 own ic cls names, a.before args s = true)
    (hlocs : ∀ x ∈ locs, ∀ cell, s.heap[x.base]? = some cell → cell.vm.isStatics = false)
    {a : Addr} {cX : ClassId} {kX : Class} (hfoundX : s.vm.findClass cls = some cX) (hkX : s.vm.classes[cX]? = some kX) (hcell : W.heap[a]? = some (freshCell cX kX)) (hnew : s.heap.size ≤ a)
    {g : JFrame} (hg : g.method = m₀) (hsize : g.locals.size = c.maxLocals) {rest : List Value} (hstack : g.stack = .ref a :: .ref a :: rest)
    (hd6 : decode c.code g.pc = .ok (.invokespecial ic, 3))
    (hRframes : names.length + 3 < R.frames) (hRlocals : 2 * g.monitorRoom + ((Value.ref a :: rest).map fun v => v.category).sum + (13 * (names.length + 1) + 41) ≤ R.locals) :
    ∃ (V : State) (ce : Cell) (L : List Loc), Stand p l e R s m₀ args below meth c (V.setCell a ce) (locs ++ L) cells slots ∧ (∀ y ∈ L, y.base = a) ∧ a < V.heap.size ∧ ce.cls = cX ∧ ce.vm = .none ∧
      ∀ target, Steps p.tables e below ((V.setCell a ce).setTop { g with stack := .ref a :: rest, pc := g.pc + 3 }) target → Steps p.tables e below (W.setTop g) target := by
  have howns : e.platform.frameOwnsMonitors = true := by rw [X.admits.platform]
  have hfin : e.platform.finalization = false := by rw [X.admits.platform]
  have hpl : e.platform.magicAccessors = ({} : Platform).magicAccessors := by rw [X.admits.platform]
  have a' : ∀ x, x ∈ Bundle.ownAtoms0 own ic cls names → x.holds args s none s [] = true := fun x hx => h x hx
  obtain ⟨T, Z, L, LZ, Y⟩ := ThrowableC.of_atoms (args := args) howns hfin hpl (fun x hx => h x (by simp [Bundle.ownAtoms0, hx]))
  obtain ⟨P1, Ps, hlen, L1, hL, hP1m, hlink1, hlink⟩ := Bundle.chain0 (args := args) hpl Y.init0 names cls hcls hnames (fun x hx => h x (by simp [Bundle.ownAtoms0, hx]))
  have hfound : s.vm.findClass cls = some P1.m.cls := findClass_of_methodNamed hP1m
  cases Option.some.inj (hfoundX.symm.trans hfound)
  obtain ⟨c1, kX', hc1, hk, hord, -, -, hn6⟩ := Cond.instantiable_spec (a' (.instantiable cls 6) (by simp [Bundle.ownAtoms0]))
  cases Option.some.inj (hc1.symm.trans hfound)
  cases Option.some.inj (hkX.symm.trans hk)
  have hsel0 : selectMethod e.platform s.vm P1.m.cls T.fill0 = .method T.fill0 := by
    obtain ⟨c2, r2, m2, q1, q2, q3, q4, -⟩ := Cond.selects_spec (a' (.selects cls Bundle.tFill0 Bundle.tFill0) (by simp [Bundle.ownAtoms0]))
    cases Option.some.inj (q1.symm.trans hfound)
    cases Option.some.inj (q2.symm.trans (State.methodFound?_of_named Y.fill0 (by decide)))
    cases Option.some.inj (q3.symm.trans Y.fill0)
    rw [Launch.admits_selectMethod X.admits]; exact q4
  have hselF : selectMethod e.platform s.vm P1.m.cls T.fill = .method T.fill := by
    obtain ⟨c2, r2, m2, q1, q2, q3, q4, -⟩ := Cond.selects_spec (a' (.selects cls Bundle.tFill Bundle.tFill) (by simp [Bundle.ownAtoms0]))
    cases Option.some.inj (q1.symm.trans hfound)
    cases Option.some.inj (q2.symm.trans (State.methodFound?_of_named Y.fill (by decide)))
    cases Option.some.inj (q3.symm.trans Y.fill)
    rw [Launch.admits_selectMethod X.admits]; exact q4
  obtain ⟨cellS0, hcS0, hiss⟩ := Y.statics
  obtain ⟨u0, hu0⟩ := Cond.staticRefV Y.unassigned L.unassignedStatic L.statics hcS0 hiss (a' (.isRef (.static Bundle.tN "UNASSIGNED_STACK" Bundle.steD)) (by simp [Bundle.ownAtoms0]))
  obtain ⟨sen, hsen⟩ := Cond.staticRefV Y.sentinel L.sentinelStatic L.statics hcS0 hiss (a' (.isRef (.static Bundle.tN "SUPPRESSED_SENTINEL" Bundle.listD)) (by simp [Bundle.ownAtoms0]))
  obtain ⟨ci198, i198, fB, hk198, hg198, ha198, hsB, -, hnB, htB, hffB⟩ := Cond.ownField (t := .object "java/lang/Object") Y.found L.cls (by decide +kernel) (a' (.fieldLink Bundle.tN 198 Bundle.tN "backtrace" "Ljava/lang/Object;") (by simp [Bundle.ownAtoms0])) (a' (.lays Bundle.tN Bundle.tN "backtrace" "Ljava/lang/Object;") (by simp [Bundle.ownAtoms0])) e.platform hpl
  obtain ⟨cellS, hcS', heS, -, hkeep⟩ := X.same.2.2.2.2.2 T.aS cellS0 hcS0
  have hcellS : W.heap[T.aS]? = some cellS := hcS'
  have hout' : ∀ i, (⟨T.aS, i⟩ : Loc) ∉ locs := fun i hmem => by
    have := hlocs _ hmem cellS0 hcS0
    rw [hiss] at this; cases this
  have hknownS : cellS.vm ≠ .unknown := by
    rw [heS]; intro hu
    rw [show cellS0.vm = .unknown from hu] at hiss
    cases hiss
  have hneS : T.aS ≠ a := Nat.ne_of_lt (Nat.lt_of_lt_of_le (Array.getElem?_eq_some_iff.mp hcS0).1 hnew)
  obtain ⟨iM, hffM⟩ := Y.msg
  obtain ⟨tyC, dC, hdC, hdnC⟩ := Cond.laysAt hfound hk Y.cause (a' (.lays cls Bundle.tN "cause" "Ljava/lang/Throwable;") (by simp [Bundle.ownAtoms0]))
  obtain ⟨tyS, dS, hdS, hdnS⟩ := Cond.laysAt hfound hk Y.stack (a' (.lays cls Bundle.tN "stackTrace" Bundle.steD) (by simp [Bundle.ownAtoms0]))
  obtain ⟨tyP, dP, hdP, hdnP⟩ := Cond.laysAt hfound hk Y.supp (a' (.lays cls Bundle.tN "suppressedExceptions" Bundle.listD) (by simp [Bundle.ownAtoms0]))
  obtain ⟨tyM, dM, hdM, hdnM⟩ := Cond.laysAt hfound hk hffM (a' (.lays cls Bundle.tN "detailMessage" "Ljava/lang/String;") (by simp [Bundle.ownAtoms0]))
  obtain ⟨tyB, dB, hdB, hdnB⟩ := Cond.laysAt hfound hk hffB (a' (.lays cls Bundle.tN "backtrace" "Ljava/lang/Object;") (by simp [Bundle.ownAtoms0]))
  have bC := Cond.laysApart hdB hdC hdnB hdnC (by rw [hnB, Y.causeName]; decide)
  have bS := Cond.laysApart hdB hdS hdnB hdnS (by rw [hnB, Y.stackName]; decide)
  have bP := Cond.laysApart hdB hdP hdnB hdnP (by rw [hnB, Y.suppName]; decide)
  have hskip : SkipFacts T e.platform s (fun u => u) u0 ((preparedCellV T.toThrowableT (freshCell P1.m.cls kX) a u0 sen).withEntry W.cur) :=
    ⟨{ ci198 := ci198, i198 := i198, fBack := fB }, ⟨hk198, hg198, ha198, hsB⟩, by
      have := fresh_default (c := P1.m.cls) tyB
      rw [htB] at this
      simpa [preparedCellV, Cell.setSlot, Cell.withEntry, Array.getElem?_setIfInBounds, bC, bS, bP, bC.symm, bS.symm, bP.symm, defaultValue] using this, fun _ _ => rfl⟩
  obtain ⟨tm, methC, cdC, kC, vm₁, hnC, -, -, -, -, -, -, -, hW₁, st1⟩ := Steps.initCold (tb := p.tables) (e := e) (below := below) (s := s) (U := W) X.here hexec X.warmed hpl hown (t := Bundle.init0 cls) rfl rfl (Bundle.fit_spec hcls).2
    (a' (.methodLink own ic (Bundle.init0 cls)) (by simp [Bundle.ownAtoms0])) (h (.instanceMethod (Bundle.init0 cls)) (by cases names <;> simp [Bundle.ownAtoms0, Bundle.chain0Atoms, Bundle.passAtoms])) (bytes := Bundle.five) (maxL := 1) (h (.code (Bundle.init0 cls) Bundle.five 1 none) (by cases names <;> simp [Bundle.ownAtoms0, Bundle.chain0Atoms, Bundle.passAtoms]))
    (f := g) hg (a := a) (rest := .ref a :: rest) hstack hd6
  cases Option.some.inj (hnC.symm.trans hP1m)
  have X₁ := X.noted hW₁
  obtain ⟨vm₂, X₂, st2⟩ := X₁.ctorPlainOffV hexec (g := { g with stack := .ref a :: rest }) hg hsize T L Z LZ (P1 :: Ps)
    (fun P hP => by rcases List.mem_cons.mp hP with rfl | hP; exact L1; exact hL P hP) ⟨hlink1, hlink⟩ (u0 := u0) (sen := sen) (self := a) (cell := freshCell P1.m.cls kX) (cellS := cellS)
    hcell (fun _ => by simp) (by simp) rfl rfl hsel0 hselF hcellS hneS hknownS (by rw [hkeep _ (hout' _)]; exact hu0) (by rw [hkeep _ (hout' _)]; exact hsen)
    (Takes.of_laid hk hord tyC (by rw [Y.causeType]; rfl)) (Takes.of_laid hk hord tyS (by rw [Y.stackType]; exact fits_refV_array _ u0)) (Takes.of_laid hk hord tyP (by rw [Y.suppType]; exact fits_refV_object _ sen)) Y.objLocals hskip htr [] hd6
    (by simp only [List.length_cons, hlen]; omega) (by simp only [List.length_cons, hlen]; exact hRlocals)
  have hlt : a < ((W.setVm vm₁).setVm vm₂).heap.size := (Array.getElem?_eq_some_iff.mp hcell).1
  refine ⟨(W.setVm vm₁).setVm vm₂, _, _, X₂, fun y hy => ?_, hlt, rfl, rfl, fun target hwalk => st1 _ (fun acts => ?_)⟩
  · simp only [List.mem_cons, List.not_mem_nil, or_false] at hy
    rcases hy with rfl | rfl | rfl | rfl <;> rfl
  · rw [doInvoke_state]
    exact st2 _ hwalk
end VXK
section VXK2
variable {p : Program} {l : Launch} {e : Env} {R : Room} {s : State} {m : MethodId} {args : Array Value} {below : List Frame} {meth : Method} {c : Code} {H : Heap} {locs : List Loc} {cells slots : Nat} {Q : State → Prop}
variable {ls : Array Slot} {rest : List Value} {D : va_G} {cl : List vw_C} {tys : List (ClassId × FieldType)} {ws : va_W}
/-- 'new E("text")' that isn't thrown at once: the object goes on the stack -/
theorem vx_makeS {cc : ByteArray} {pc : Nat} (hexec : p.tables.exec = Jvm.exec) (hb : c.code = cc) (hl : l.stackTraces = false) {own cls text : String} {names : List String} {ik is ic sa ci : Nat} {A : Nat → Prop} {T0 : u_T}
    (hown : s.vm.findClass own = some m.cls) (hcls : Bundle.fit cls = true) (hnames : ∀ n ∈ names, Bundle.fit n = true)
    (hk : (Cond.classLink own ik cls).before args s = true) (hini : (Cond.initialized cls).before args s = true) (hstr : vk_R own is text sa s) (hat : ∀ w ∈ vx_atS own ic cls names, w.before args s = true)
    (hgood : ∀ w ∈ Cond.classLink own ik cls :: Cond.initialized cls :: vx_atS own ic cls names, vx_ot w = true)
    (hU : vx_Zq Bundle.tN "UNASSIGNED_STACK" Bundle.steD A s s.heap) (hN : vx_Zq Bundle.tN "SUPPRESSED_SENTINEL" Bundle.listD A s s.heap) (hS : va_S A s.heap H locs) (hsize : ls.size = c.maxLocals)
    (d0 : decode cc pc = .ok (.new ik, 3)) (d3 : decode cc (pc + 3) = .ok (.dup, 1)) (d4 : decode cc (pc + 4) = .ok (.ldc is, 2)) (d6 : decode cc (pc + 6) = .ok (.invokespecial ic, 3))
    (hK : va_K D cl tys s) (hP : va_P D cl ws H) (hD : va_D A ws) (hA : ∀ q, s.heap.size ≤ q → A q) (hc : cl[ci]? = some (cls, T0, 0))
    (hRframes : names.length + 3 < R.frames) (hRlocals : (rest.map fun v => v.category).sum + (13 * (names.length + 1) + 43) ≤ R.locals) (hRcells : cells + 1 ≤ R.cells) (hRslots : slots + 6 ≤ R.slots)
    (kk : ∀ (q : Nat) (H1 : Heap), va_P D cl (ws ++ [(q, .inr (ci, []))]) H1 → va_D A (ws ++ [(q, .inr (ci, []))]) → va_S A s.heap H1 locs → W p l e R s m args below meth c H1 locs (cells + 1) (slots + 6) Q (F0 m (pc + 9) ls (.ref q :: rest))) :
    W p l e R s m args below meth c H locs cells slots Q (F0 m pc ls rest) := by
  intro T hT X
  subst hT
  have htr : e.platform.stackTraces = false := (show e.platform.stackTraces = l.stackTraces by rw [X.admits.platform]).trans hl
  have Y := vx_rebase X (R' := { frames := R.frames, locals := R.locals, cells := 1, slots := 6 }) (Nat.le_refl _) (Nat.le_refl _) hRcells hRslots
  obtain ⟨s', hA'⟩ : ∃ z, z = (T.setVm s.vm).setFrames (.invoking m args :: below) := ⟨_, rfl⟩
  rw [← hA'] at Y
  have hvm : s'.vm = s.vm := by rw [hA']; rfl
  have hhp : s'.heap = T.heap := by rw [hA']; rfl
  have hW0 : s.WarmedH s'.vm := by rw [hvm]; exact State.WarmedH.refl s
  have hat' : ∀ w ∈ vx_atS own ic cls names, w.before args s' = true := fun w hw => vx_ot_at hW0 hvm.symm (hgood w (List.mem_cons_of_mem _ (List.mem_cons_of_mem _ hw))) (hat w hw)
  have hk' : (Cond.classLink own ik cls).before args s' = true := vx_ot_at hW0 hvm.symm (hgood _ List.mem_cons_self) hk
  have hini' : (Cond.initialized cls).before args s' = true := vx_ot_at hW0 hvm.symm (hgood _ (List.mem_cons_of_mem _ List.mem_cons_self)) hini
  have hU' : vx_Zq Bundle.tN "UNASSIGNED_STACK" Bundle.steD A s' s'.heap := by rw [hhp]; exact vx_Zq.moved hW0.alike (hU.kept hS.2.1)
  have hN' : vx_Zq Bundle.tN "SUPPRESSED_SENTINEL" Bundle.listD A s' s'.heap := by rw [hhp]; exact vx_Zq.moved hW0.alike (hN.kept hS.2.1)
  have h : ∀ w ∈ Bundle.ownAtoms own ic cls names, w.before args s' = true := vx_own hat' (vx_isRefq hU'.1) (vx_isRefq hN'.1) hU'.2.word hN'.2.word
  have hown' : s'.vm.findClass own = some m.cls := by rw [hvm]; exact hown
  have hins : (Cond.instantiable cls 6).before args s' = true := h _ (by simp [Bundle.ownAtoms])
  obtain ⟨vm₁, cX, kX, hfX, hkX, -, -, X₁, st1⟩ := Y.newCold hexec (own := own) (C := cls) (index := ik) (n := 6) hown' hk' hins hini'
    (g := F0 m pc ls rest) rfl (by rw [hb]; exact d0) (Nat.le_refl _) (Nat.le_refl _)
  generalize hT1 : (T.setVm vm₁).pushCell { cls := cX, slots := kX.instanceTypes.map defaultValue, vm := .none } = T1 at X₁ st1
  have hcat : (Value.ref T.heap.size).category = 1 := rfl
  have hcellA : T1.heap[T.heap.size]? = some (freshCell cX kX) := by rw [← hT1]; exact State.heap_pushCell_size _ _
  have d3' : decode c.code (pc + 3) = .ok (.dup, 1) := by rw [hb]; exact d3
  have d4' : decode c.code (pc + 4) = .ok (.ldc is, 2) := by rw [hb]; exact d4
  have hstr' : vk_R own is text sa s' := vk_R.warm hW0 hstr
  obtain ⟨V, ce, L, Z, hL, hlt, hcl9, hvm9, st⟩ := vx_ctorMadeS X₁ hexec htr (own := own) (cls := cls) (names := names) (ic := ic) hown' hcls hnames h (fun x hx => nomatch hx) hfX hkX hcellA (by rw [hhp]; exact Nat.le_refl _) (msg := .ref sa) rfl
    (g := { method := m, pc := pc + 6, locals := ls, stack := .ref sa :: .ref T.heap.size :: .ref T.heap.size :: rest, locked := none }) rfl hsize (rest := rest) rfl
    (by rw [hb]; exact d6) hRframes (by simp only [List.map_cons, List.sum_cons, hcat]; omega)
  have Z0 := Stand.forget (locs := []) Z (fun y hy => by rw [hL y hy, hhp]; exact Nat.le_refl _)
  obtain ⟨f1, f2⟩ := vx_frame Z0.same
  rw [hhp] at f1 f2
  have hcid : ce.cls = D.1 ci := by
    rw [hcl9]
    have h1 := (hK.1 ci _ hc).2.1
    rw [hvm] at hfX
    exact Option.some.inj (hfX.symm.trans h1)
  have hh : (V.setCell T.heap.size ce).heap[T.heap.size]? = some ce := heapAt_setCell_self (s := V) ce hlt
  subst hA'
  have X5 := vx_back9 X Y Z0
  have X6 : Stand p l e R s m args below meth c (V.setCell T.heap.size ce) locs (cells + 1) (slots + 6) := { X5 with same := X5.same.mono (by omega) (by omega) }
  have hk9 : ∀ (k : Nat) (x : Nat × va_E), ws[k]? = some x → (V.setCell T.heap.size ce).heap[x.1]? = T.heap[x.1]? := fun k x hx => f2 x.1 ((hP k x hx).lt) (fun z hz => nomatch hz)
  obtain ⟨t, a1, b1⟩ := kk T.heap.size (V.setCell T.heap.size ce).heap ((hP.kept hk9).app (fun k x hx => by
      have hz : k < 1 := (List.getElem?_eq_some_iff.mp hx).1
      rw [show k = 0 by omega] at hx
      cases hx
      exact ⟨_, hc, ce, hh, hcid, hvm9, fun k hk => absurd hk (Nat.not_lt_zero k)⟩)) (hD.push hP rfl (hA _ hS.1)) ⟨Nat.le_trans hS.1 f1, fun q h1 h2 => (f2 q (Nat.lt_of_lt_of_le h1 hS.1) (fun z hz => nomatch hz)).trans (hS.2.1 q h1 h2), hS.2.2⟩ _ rfl X6
  refine ⟨t, st1 _ ?_, b1⟩
  show Steps p.tables e below (T1.setTop { method := m, pc := pc + 3, locals := ls, stack := .ref T.heap.size :: rest, locked := none }) _
  jvm_step X₁.here [X₁.here.top, hexec, d3', Value.category]
  exact X₁.ldcString hexec (own := own) (text := text) (index := is) (a := sa) hown' hstr'.1 hstr'.2
    (g := { method := m, pc := pc + 4, locals := ls, stack := .ref T.heap.size :: .ref T.heap.size :: rest, locked := none }) rfl d4' _ (st _ a1)
/-- 'new E()' that isn't thrown at once: the object goes on the stack -/
theorem vx_make0 {cc : ByteArray} {pc : Nat} (hexec : p.tables.exec = Jvm.exec) (hb : c.code = cc) (hl : l.stackTraces = false) {own cls : String} {names : List String} {ik ic ci : Nat} {A : Nat → Prop} {T0 : u_T}
    (hown : s.vm.findClass own = some m.cls) (hcls : Bundle.fit cls = true) (hnames : ∀ n ∈ names, Bundle.fit n = true)
    (hk : (Cond.classLink own ik cls).before args s = true) (hini : (Cond.initialized cls).before args s = true) (hat : ∀ w ∈ vx_at0 own ic cls names, w.before args s = true)
    (hgood : ∀ w ∈ Cond.classLink own ik cls :: Cond.initialized cls :: vx_at0 own ic cls names, vx_ot w = true)
    (hU : vx_Zq Bundle.tN "UNASSIGNED_STACK" Bundle.steD A s s.heap) (hN : vx_Zq Bundle.tN "SUPPRESSED_SENTINEL" Bundle.listD A s s.heap) (hS : va_S A s.heap H locs) (hsize : ls.size = c.maxLocals)
    (d0 : decode cc pc = .ok (.new ik, 3)) (d3 : decode cc (pc + 3) = .ok (.dup, 1)) (d4 : decode cc (pc + 4) = .ok (.invokespecial ic, 3))
    (hK : va_K D cl tys s) (hP : va_P D cl ws H) (hD : va_D A ws) (hA : ∀ q, s.heap.size ≤ q → A q) (hc : cl[ci]? = some (cls, T0, 0))
    (hRframes : names.length + 3 < R.frames) (hRlocals : (rest.map fun v => v.category).sum + (13 * (names.length + 1) + 42) ≤ R.locals) (hRcells : cells + 1 ≤ R.cells) (hRslots : slots + 6 ≤ R.slots)
    (kk : ∀ (q : Nat) (H1 : Heap), va_P D cl (ws ++ [(q, .inr (ci, []))]) H1 → va_D A (ws ++ [(q, .inr (ci, []))]) → va_S A s.heap H1 locs → W p l e R s m args below meth c H1 locs (cells + 1) (slots + 6) Q (F0 m (pc + 7) ls (.ref q :: rest))) :
    W p l e R s m args below meth c H locs cells slots Q (F0 m pc ls rest) := by
  intro T hT X
  subst hT
  have htr : e.platform.stackTraces = false := (show e.platform.stackTraces = l.stackTraces by rw [X.admits.platform]).trans hl
  have Y := vx_rebase X (R' := { frames := R.frames, locals := R.locals, cells := 1, slots := 6 }) (Nat.le_refl _) (Nat.le_refl _) hRcells hRslots
  obtain ⟨s', hA'⟩ : ∃ z, z = (T.setVm s.vm).setFrames (.invoking m args :: below) := ⟨_, rfl⟩
  rw [← hA'] at Y
  have hvm : s'.vm = s.vm := by rw [hA']; rfl
  have hhp : s'.heap = T.heap := by rw [hA']; rfl
  have hW0 : s.WarmedH s'.vm := by rw [hvm]; exact State.WarmedH.refl s
  have hat' : ∀ w ∈ vx_at0 own ic cls names, w.before args s' = true := fun w hw => vx_ot_at hW0 hvm.symm (hgood w (List.mem_cons_of_mem _ (List.mem_cons_of_mem _ hw))) (hat w hw)
  have hk' : (Cond.classLink own ik cls).before args s' = true := vx_ot_at hW0 hvm.symm (hgood _ List.mem_cons_self) hk
  have hini' : (Cond.initialized cls).before args s' = true := vx_ot_at hW0 hvm.symm (hgood _ (List.mem_cons_of_mem _ List.mem_cons_self)) hini
  have hU' : vx_Zq Bundle.tN "UNASSIGNED_STACK" Bundle.steD A s' s'.heap := by rw [hhp]; exact vx_Zq.moved hW0.alike (hU.kept hS.2.1)
  have hN' : vx_Zq Bundle.tN "SUPPRESSED_SENTINEL" Bundle.listD A s' s'.heap := by rw [hhp]; exact vx_Zq.moved hW0.alike (hN.kept hS.2.1)
  have h : ∀ w ∈ Bundle.ownAtoms0 own ic cls names, w.before args s' = true := vx_own hat' (vx_isRefq hU'.1) (vx_isRefq hN'.1) hU'.2.word hN'.2.word
  have hown' : s'.vm.findClass own = some m.cls := by rw [hvm]; exact hown
  have hins : (Cond.instantiable cls 6).before args s' = true := h _ (by simp [Bundle.ownAtoms0])
  obtain ⟨vm₁, cX, kX, hfX, hkX, -, -, X₁, st1⟩ := Y.newCold hexec (own := own) (C := cls) (index := ik) (n := 6) hown' hk' hins hini'
    (g := F0 m pc ls rest) rfl (by rw [hb]; exact d0) (Nat.le_refl _) (Nat.le_refl _)
  generalize hT1 : (T.setVm vm₁).pushCell { cls := cX, slots := kX.instanceTypes.map defaultValue, vm := .none } = T1 at X₁ st1
  have hcat : (Value.ref T.heap.size).category = 1 := rfl
  have hcellA : T1.heap[T.heap.size]? = some (freshCell cX kX) := by rw [← hT1]; exact State.heap_pushCell_size _ _
  have d3' : decode c.code (pc + 3) = .ok (.dup, 1) := by rw [hb]; exact d3
  obtain ⟨V, ce, L, Z, hL, hlt, hcl9, hvm9, st⟩ := vx_ctorMade0 X₁ hexec htr (own := own) (cls := cls) (names := names) (ic := ic) hown' hcls hnames h (fun x hx => nomatch hx) hfX hkX hcellA (by rw [hhp]; exact Nat.le_refl _)
    (g := { method := m, pc := pc + 4, locals := ls, stack := .ref T.heap.size :: .ref T.heap.size :: rest, locked := none }) rfl hsize (rest := rest) rfl
    (by rw [hb]; exact d4) hRframes (by simp only [List.map_cons, List.sum_cons, hcat]; omega)
  have Z0 := Stand.forget (locs := []) Z (fun y hy => by rw [hL y hy, hhp]; exact Nat.le_refl _)
  obtain ⟨f1, f2⟩ := vx_frame Z0.same
  rw [hhp] at f1 f2
  have hcid : ce.cls = D.1 ci := by
    rw [hcl9]
    have h1 := (hK.1 ci _ hc).2.1
    rw [hvm] at hfX
    exact Option.some.inj (hfX.symm.trans h1)
  have hh : (V.setCell T.heap.size ce).heap[T.heap.size]? = some ce := heapAt_setCell_self (s := V) ce hlt
  subst hA'
  have X5 := vx_back9 X Y Z0
  have X6 : Stand p l e R s m args below meth c (V.setCell T.heap.size ce) locs (cells + 1) (slots + 6) := { X5 with same := X5.same.mono (by omega) (by omega) }
  have hk9 : ∀ (k : Nat) (x : Nat × va_E), ws[k]? = some x → (V.setCell T.heap.size ce).heap[x.1]? = T.heap[x.1]? := fun k x hx => f2 x.1 ((hP k x hx).lt) (fun z hz => nomatch hz)
  obtain ⟨t, a1, b1⟩ := kk T.heap.size (V.setCell T.heap.size ce).heap ((hP.kept hk9).app (fun k x hx => by
      have hz : k < 1 := (List.getElem?_eq_some_iff.mp hx).1
      rw [show k = 0 by omega] at hx
      cases hx
      exact ⟨_, hc, ce, hh, hcid, hvm9, fun k hk => absurd hk (Nat.not_lt_zero k)⟩)) (hD.push hP rfl (hA _ hS.1)) ⟨Nat.le_trans hS.1 f1, fun q h1 h2 => (f2 q (Nat.lt_of_lt_of_le h1 hS.1) (fun z hz => nomatch hz)).trans (hS.2.1 q h1 h2), hS.2.2⟩ _ rfl X6
  refine ⟨t, st1 _ ?_, b1⟩
  show Steps p.tables e below (T1.setTop { method := m, pc := pc + 3, locals := ls, stack := .ref T.heap.size :: rest, locked := none }) _
  jvm_step X₁.here [X₁.here.top, hexec, d3', Value.category]
  exact st _ a1
/-- 'throw x' of an object that was made before -/
theorem vx_athrow {cc : ByteArray} {pc : Nat} (hexec : p.tables.exec = Jvm.exec) (hb : c.code = cc) {q : Addr} (hdg : decode cc pc = .ok (.athrow, 1)) (k : vx_W p l e R s m args below meth c H locs cells slots Q (F0 m pc ls rest) q) : W p l e R s m args below meth c H locs cells slots Q (F0 m pc ls (.ref q :: rest)) := by
  intro T hT X
  obtain ⟨t, st, hq⟩ := k T hT X
  refine ⟨t, ?_, hq⟩
  have hdg' : decode c.code pc = .ok (.athrow, 1) := by rw [hb]; exact hdg
  jvm_step X.here [X.here.top, hexec, hdg', athrow.wp_sem]
  exact st
end VXK2
/-! ===== END ===== -/
/-! ===== BEGIN a constructor that throws (launches without stack traces) ===== -/
section VXIA
variable {p : Program} {l : Launch} {e : Env} {R : Room} {s : State} {m : MethodId} {args : Array Value} {below : List Frame} {meth : Method} {c : Code} {T : State} {locs : List Loc} {cells slots : Nat}
theorem vx_callI (X : Stand p l e R s m args below meth c T locs cells slots) (hexec : p.tables.exec = Jvm.exec) {own : String} {index : Nat} {y : MethodName} {bytes : ByteArray} {maxL : Nat}
    (hown : s.vm.findClass own = some m.cls) (hy1 : y.name = "<init>") (hlink : (Cond.methodLink own index y).before args s = true) (hinst : (Cond.instanceMethod y).before args s = true)
    (hcode : (Cond.code y bytes maxL none).before args s = true) (hy : y.cls ≠ "java/lang/invoke/MethodHandle" ∧ y.cls ≠ "java/lang/invoke/VarHandle")
    {W9 : Nat} {Pre : Pt → Array Value → Prop} {Post : Pt → Array Value → Option Value → Pt → Prop} {PostX : Pt → Array Value → Addr → Pt → Prop} (hK : vx_Back l R p e below s args y 3 W9 Pre Post PostX)
    {g : JFrame} (hg : g.method = m) (hsize : g.locals.size = c.maxLocals) {a : Addr} {argsL rest : List Value} (hlen : ∀ sig, parseMethodDescriptor y.desc = some sig → argsL.length = sig.parameters.length)
    (hstack : g.stack = argsL.reverse ++ .ref a :: rest) (hW : 2 * g.monitorRoom + (rest.map fun v => v.category).sum ≤ W9) (hdg : decode c.code g.pc = .ok (.invokespecial index, 3))
    (hpre : ∀ vm₁, s.WarmedH vm₁ → Pre ⟨T.setVm vm₁, locs, cells, slots⟩ (Value.ref a :: argsL).toArray) :
    (∃ (v : Option Value) (vm₁ : Vm) (B : Pt), s.WarmedH vm₁ ∧ Stand p l e R s m args below meth c B.U B.locs B.cells B.slots ∧ Post ⟨T.setVm vm₁, locs, cells, slots⟩ (Value.ref a :: argsL).toArray v B ∧
      ∀ target, Steps p.tables e below (B.U.setTop { g with pc := g.pc + 3, stack := v.toList ++ rest }) target → Steps p.tables e below (T.setTop g) target) ∨
    (∃ (q : Addr) (vm₁ : Vm) (B : Pt), s.WarmedH vm₁ ∧ Stand p l e R s m args below meth c B.U B.locs B.cells B.slots ∧ PostX ⟨T.setVm vm₁, locs, cells, slots⟩ (Value.ref a :: argsL).toArray q B ∧
      Steps p.tables e below (T.setTop g) ((B.U.setTop { g with stack := rest }).pushFrame (.throwing q))) := by
  subst hg
  have hpl : e.platform.magicAccessors = ({} : Platform).magicAccessors := by rw [X.admits.platform]
  obtain ⟨mk, methM, cM, kP, vm₁, hnamed, hmethM, hcodeM, -, hlocalsM, -, hkP, -, hW₁, hstep₁⟩ := Steps.initColdArgs (e := e) X.here hexec X.warmed hpl hown hy1 hy hlink hinst hcode (f := g) rfl hlen hstack hdg
  have X₁ := X.noted hW₁
  rcases hK g.method meth c ⟨T.setVm vm₁, locs, cells, slots⟩ { g with stack := rest } (.invokespecial index) mk (Value.ref a :: argsL).toArray X₁ rfl hsize hdg hW (X₁.named hnamed) (hpre vm₁ X₁.warmed) with ⟨v, B, X', hpost, hsteps⟩ | ⟨q, B, X', hpost, hsteps⟩
  · exact Or.inl ⟨v, vm₁, B, X₁.warmed, X', hpost, fun target h => hstep₁ _ fun acts => by rw [doInvoke_state]; exact hsteps.trans h⟩
  · exact Or.inr ⟨q, vm₁, B, X₁.warmed, X', hpost, hstep₁ _ fun acts => by rw [doInvoke_state]; exact hsteps⟩
end VXIA
section VXIB
variable {p : Program} {l : Launch} {e : Env} {R : Room} {s : State} {m : MethodId} {args : Array Value} {below : List Frame} {meth : Method} {c : Code} {H : Heap} {locs : List Loc} {cells slots : Nat}
variable {y : MethodName} {bytes cc : ByteArray} {maxL nL mc ms n index : Nat} {ret : Option FieldType} {ws : List Cond} {rm : Room} {Pc : Array Value → State → Prop} {Qc : Array Value → State → Outcome → State → Prop} {XC : String → State → State → Prop} {free : Addr → Prop} {Ts : List Cond} {own C : String} {b : Addr} {As rest : List Value} {g : JFrame}
theorem vx_runI (S : CallFix p m c cc nL s args Ts own) (hM : vx_Met l y ws rm Pc Qc XC mc ms free) (cw : CallB R s args own index y bytes maxL none ws rm mc ms n ∧ y.name = "<init>" ∧ (Cond.instanceMethod y).before args s = true) (hp : PreS s H Pc (.ref b :: As))
    (hg : g.method = m) (hn : As.length = n) (hsize : g.locals.size = nL) (hstack : g.stack = As.reverse ++ .ref b :: rest) (hW : 2 * g.monitorRoom + (rest.map fun v => v.category).sum ≤ 8) (hdg : decode cc g.pc = .ok (.invokespecial index, 3)) (hf : cells + mc ≤ R.cells ∧ slots + ms ≤ R.slots) :
    vx_Run p l e R s m args below meth c H locs cells slots mc ms g rest (Qc (Value.ref b :: As).toArray) XC free := by
  have hK : vx_Back l R p e below s args y 3 8 (PreOf R mc ms Pc) (PostOf Qc mc ms free) (vx_Post XC mc ms free) := vx_callBack cw.1 hM hp.1
  obtain ⟨⟨-, -, -, -, -, -, hcode, -, hy, hlen, hl⟩, hy1, hin⟩ := cw
  obtain ⟨hx, hb, hml, ho, -⟩ := S
  have hPc := hp.2
  intro T hT X
  rcases vx_callI X hx (bytes := bytes) (maxL := maxL) ho hy1 hl hin hcode hy hK hg (hsize.trans hml.symm) (a := b) (argsL := As) (rest := rest) (fun sig h => hn.trans (hlen sig h)) hstack hW (by rw [hb]; exact hdg)
    (fun vm₁ hW₁ => ⟨hf.1, hf.2, hPc (T.setVm vm₁) hT hW₁⟩) with ⟨v, vm₁, ⟨U', l2, c2, s2⟩, hW₁, X', ⟨g', mk, t, L, e1, e2, hq, h1, hL, h2, h3⟩, st⟩ | ⟨q, vm₁, ⟨U', l2, c2, s2⟩, hW₁, X', ⟨g', mk, t, L, E, ce, e1, e2, hq, hce, hcv, hcl, h1, hL, h2, h3⟩, st⟩
  · dsimp only [Pt.U, Pt.locs, Pt.cells, Pt.slots] at X' e1 e2 h1 h2 h3 st
    subst h1; subst h2; subst h3
    exact Or.inl ⟨v, (T.setVm vm₁).calling g' mk (Value.ref b :: As).toArray, t, U', L, hT, X', hL, e1, e2, hq, st⟩
  · dsimp only [Pt.U, Pt.locs, Pt.cells, Pt.slots] at X' e1 e2 h1 h2 h3 st hcl
    subst h1; subst h2; subst h3
    exact Or.inr ⟨q, (T.setVm vm₁).calling g' mk (Value.ref b :: As).toArray, t, U', L, E, ce, hT, X', hL, e1, e2, hq, hce, hcv, vx_cls hW₁ hcl, st⟩
end VXIB
/-! ===== END ===== -/
/-! ===== BEGIN a private constructor of a nest mate that throws ===== -/
section VXIC
variable {p : Program} {l : Launch} {e : Env} {R : Room} {s : State} {m : MethodId} {args : Array Value} {below : List Frame} {meth : Method} {c : Code} {T : State} {locs : List Loc} {cells slots : Nat}
theorem vx_callIN (X : Stand p l e R s m args below meth c T locs cells slots) (hexec : p.tables.exec = Jvm.exec) {own : String} {index : Nat} {host : String} {y : MethodName} {bytes : ByteArray} {maxL : Nat}
    (hown : s.vm.findClass own = some m.cls) (hy1 : y.name = "<init>") (hlink : (Cond.methodLinkNest own index y host).before args s = true) (hinst : (Cond.instanceMethod y).before args s = true)
    (hcode : (Cond.code y bytes maxL none).before args s = true) (hy : y.cls ≠ "java/lang/invoke/MethodHandle" ∧ y.cls ≠ "java/lang/invoke/VarHandle")
    {W9 : Nat} {Pre : Pt → Array Value → Prop} {Post : Pt → Array Value → Option Value → Pt → Prop} {PostX : Pt → Array Value → Addr → Pt → Prop} (hK : vx_Back l R p e below s args y 3 W9 Pre Post PostX)
    {g : JFrame} (hg : g.method = m) (hsize : g.locals.size = c.maxLocals) {a : Addr} {argsL rest : List Value} (hlen : ∀ sig, parseMethodDescriptor y.desc = some sig → argsL.length = sig.parameters.length)
    (hstack : g.stack = argsL.reverse ++ .ref a :: rest) (hW : 2 * g.monitorRoom + (rest.map fun v => v.category).sum ≤ W9) (hdg : decode c.code g.pc = .ok (.invokespecial index, 3))
    (hpre : ∀ vm₁, s.WarmedH vm₁ → Pre ⟨T.setVm vm₁, locs, cells, slots⟩ (Value.ref a :: argsL).toArray) :
    (∃ (v : Option Value) (vm₁ : Vm) (B : Pt), s.WarmedH vm₁ ∧ Stand p l e R s m args below meth c B.U B.locs B.cells B.slots ∧ Post ⟨T.setVm vm₁, locs, cells, slots⟩ (Value.ref a :: argsL).toArray v B ∧
      ∀ target, Steps p.tables e below (B.U.setTop { g with pc := g.pc + 3, stack := v.toList ++ rest }) target → Steps p.tables e below (T.setTop g) target) ∨
    (∃ (q : Addr) (vm₁ : Vm) (B : Pt), s.WarmedH vm₁ ∧ Stand p l e R s m args below meth c B.U B.locs B.cells B.slots ∧ PostX ⟨T.setVm vm₁, locs, cells, slots⟩ (Value.ref a :: argsL).toArray q B ∧
      Steps p.tables e below (T.setTop g) ((B.U.setTop { g with stack := rest }).pushFrame (.throwing q))) := by
  subst hg
  have hpl : e.platform.magicAccessors = ({} : Platform).magicAccessors := by rw [X.admits.platform]
  obtain ⟨mk, methM, cM, kP, vm₁, hnamed, hmethM, hcodeM, -, hlocalsM, -, hkP, -, hW₁, hstep₁⟩ := Steps.initColdArgsNest (e := e) X.here hexec X.warmed hpl hown hy1 hy hlink hinst hcode (f := g) rfl hlen hstack hdg
  have X₁ := X.noted hW₁
  rcases hK g.method meth c ⟨T.setVm vm₁, locs, cells, slots⟩ { g with stack := rest } (.invokespecial index) mk (Value.ref a :: argsL).toArray X₁ rfl hsize hdg hW (X₁.named hnamed) (hpre vm₁ X₁.warmed) with ⟨v, B, X', hpost, hsteps⟩ | ⟨q, B, X', hpost, hsteps⟩
  · exact Or.inl ⟨v, vm₁, B, X₁.warmed, X', hpost, fun target h => hstep₁ _ fun acts => by rw [doInvoke_state]; exact hsteps.trans h⟩
  · exact Or.inr ⟨q, vm₁, B, X₁.warmed, X', hpost, hstep₁ _ fun acts => by rw [doInvoke_state]; exact hsteps⟩
end VXIC
section VXID
variable {p : Program} {l : Launch} {e : Env} {R : Room} {s : State} {m : MethodId} {args : Array Value} {below : List Frame} {meth : Method} {c : Code} {H : Heap} {locs : List Loc} {cells slots : Nat}
theorem vx_runIN {y : MethodName} {bytes cc : ByteArray} {maxL nL mc ms n index : Nat} {ws : List Cond} {rm : Room} {Pc : Array Value → State → Prop} {Qc : Array Value → State → Outcome → State → Prop} {XC : String → State → State → Prop} {free : Addr → Prop} {Ts : List Cond} {own host : String} {b : Addr} {As rest : List Value} {g : JFrame}
    (S : CallFix p m c cc nL s args Ts own) (hM : vx_Met l y ws rm Pc Qc XC mc ms free) (cw : va_CN R s args own index y host bytes maxL none ws rm mc ms n ∧ y.name = "<init>" ∧ (Cond.instanceMethod y).before args s = true) (hp : PreS s H Pc (.ref b :: As))
    (hg : g.method = m) (hn : As.length = n) (hsize : g.locals.size = nL) (hstack : g.stack = As.reverse ++ .ref b :: rest) (hW : 2 * g.monitorRoom + (rest.map fun v => v.category).sum ≤ 8) (hdg : decode cc g.pc = .ok (.invokespecial index, 3)) (hf : cells + mc ≤ R.cells ∧ slots + ms ≤ R.slots) :
    vx_Run p l e R s m args below meth c H locs cells slots mc ms g rest (Qc (Value.ref b :: As).toArray) XC free := by
  obtain ⟨⟨⟨hrc, hrs, hfr, hlo, hws, hcw⟩, hcode, hini, hy, hlen, hl⟩, hx1, hx2⟩ := cw
  have hK : vx_Back l R p e below s args y 3 8 (PreOf R mc ms Pc) (PostOf Qc mc ms free) (vx_Post XC mc ms free) := vx_back (bytes := bytes) (maxL := maxL) (ret := none) hM hp.1 hrc hrs hfr hlo hws hcw (fun a' U hW => word_at hW (Or.inl (by first | rfl | simp [Cond.onTables, Cond.keeps, Cond.steady])) hini)
  obtain ⟨hx, hb, hml, ho, -⟩ := S
  have hPc := hp.2
  intro T hT X
  rcases vx_callIN X hx (bytes := bytes) (maxL := maxL) ho hx1 hl hx2 hcode hy hK hg (hsize.trans hml.symm) (a := b) (argsL := As) (rest := rest) (fun sig h => hn.trans (hlen sig h)) hstack hW (by rw [hb]; exact hdg)
    (fun vm₁ hW₁ => ⟨hf.1, hf.2, hPc (T.setVm vm₁) hT hW₁⟩) with ⟨v, vm₁, ⟨U', l2, c2, s2⟩, hW₁, X', ⟨g', mk, t, L, e1, e2, hq, h1, hL, h2, h3⟩, st⟩ | ⟨q, vm₁, ⟨U', l2, c2, s2⟩, hW₁, X', ⟨g', mk, t, L, E, ce, e1, e2, hq, hce, hcv, hcl, h1, hL, h2, h3⟩, st⟩
  · dsimp only [Pt.U, Pt.locs, Pt.cells, Pt.slots] at X' e1 e2 h1 h2 h3 st
    subst h1; subst h2; subst h3
    exact Or.inl ⟨v, (T.setVm vm₁).calling g' mk (Value.ref b :: As).toArray, t, U', L, hT, X', hL, e1, e2, hq, st⟩
  · dsimp only [Pt.U, Pt.locs, Pt.cells, Pt.slots] at X' e1 e2 h1 h2 h3 st hcl
    subst h1; subst h2; subst h3
    exact Or.inr ⟨q, (T.setVm vm₁).calling g' mk (Value.ref b :: As).toArray, t, U', L, E, ce, hT, X', hL, e1, e2, hq, hce, hcv, vx_cls hW₁ hcl, st⟩
end VXID
/-! ===== END ===== -/
/-! ===== BEGIN a method of a class above, found by the receiver, that may throw (follows va_callVU, va_runU of this kit) ===== -/
section
variable {p : Program} {l : Launch} {e : Env} {R : Room} {s : State} {m : MethodId} {args : Array Value} {below : List Frame} {meth : Method} {c : Code} {H : Heap} {locs : List Loc} {cells slots : Nat}
theorem vx_callVU {T : State} {locs : List Loc} {cells slots : Nat} (X : Stand p l e R s m args below meth c T locs cells slots) (hexec : p.tables.exec = Jvm.exec) {own C owner : String} {index : Nat} {x y : MethodName} {bytes : ByteArray} {maxL : Nat} {ret : Option FieldType}
    (hown : s.vm.findClass own = some m.cls) (hlink : (Cond.methodLink own index x).before args s = true) (hsame : (Cond.sameMethod x.cls owner x.name x.desc).before args s = true)
    (hd0 : va_Decl s ⟨owner, x.name, x.desc⟩) (howner : owner ≠ "java/lang/invoke/MethodHandle" ∧ owner ≠ "java/lang/invoke/VarHandle")
    (hsel : (Cond.selects C x y).before args s = true) (hinst : (Cond.instanceMethod y).before args s = true) (hcode : (Cond.code y bytes maxL ret).before args s = true)
    {W : Nat} {Pre : Pt → Array Value → Prop} {Post : Pt → Array Value → Option Value → Pt → Prop} {PostX : Pt → Array Value → Addr → Pt → Prop} (hK : vx_Back l R p e below s args y 3 W Pre Post PostX)
    {b : Addr} {cellB : Cell} (hcell : T.heap[b]? = some cellB) (hobj : cellB.vm.isStatics = false) (hcls : s.vm.findClass C = some cellB.cls)
    {g : JFrame} (hg : g.method = m) (hsize : g.locals.size = c.maxLocals) {argsL rest : List Value} (hlen : ∀ sig, parseMethodDescriptor x.desc = some sig → argsL.length = sig.parameters.length)
    (hstack : g.stack = argsL.reverse ++ .ref b :: rest) (hW : 2 * g.monitorRoom + (rest.map fun v => v.category).sum ≤ W) (hdg : decode c.code g.pc = .ok (.invokevirtual index, 3))
    (hpre : ∀ vm₁, s.WarmedH vm₁ → Pre ⟨T.setVm vm₁, locs, cells, slots⟩ (Value.ref b :: argsL).toArray) :
    (∃ (v : Option Value) (vm₁ : Vm) (B : Pt), s.WarmedH vm₁ ∧ Stand p l e R s m args below meth c B.U B.locs B.cells B.slots ∧ Post ⟨T.setVm vm₁, locs, cells, slots⟩ (Value.ref b :: argsL).toArray v B ∧
      ∀ target, Steps p.tables e below (B.U.setTop { g with pc := g.pc + 3, stack := v.toList ++ rest }) target → Steps p.tables e below (T.setTop g) target) ∨
    (∃ (q : Addr) (vm₁ : Vm) (B : Pt), s.WarmedH vm₁ ∧ Stand p l e R s m args below meth c B.U B.locs B.cells B.slots ∧ PostX ⟨T.setVm vm₁, locs, cells, slots⟩ (Value.ref b :: argsL).toArray q B ∧
      Steps p.tables e below (T.setTop g) ((B.U.setTop { g with stack := rest }).pushFrame (.throwing q))) := by
  obtain ⟨r0, r, hn, hrm, hstR, hsigR⟩ := hd0
  obtain ⟨cn, ck, r1, hcn, hck, hni, hf, hn1⟩ := Cond.sameMethod_found hsame
  cases hn.symm.trans hn1
  obtain ⟨mk, methM, hnamed, hmethM, -, habM⟩ := Cond.instanceMethod_spec hinst
  obtain ⟨c2, r2, m2, q1, q2, q3, q4, kP, hkP, hkPi⟩ := Cond.selects_spec hsel
  cases hcls.symm.trans q1
  cases hf.symm.trans q2
  cases hnamed.symm.trans q3
  have hselP : selectMethod e.platform s.vm cellB.cls r0 = .method mk := by rw [Launch.admits_selectMethod X.admits]; exact q4
  obtain ⟨vm₁, X₁, hstep₁⟩ := X.invokevirtualUp hexec hown hlink hsame howner hn hrm hstR (a := b) (cell := cellB) hcell
    (fun z h => by rw [h] at hobj; cases hobj) hselP hmethM habM hkP hkPi (g := g) hg (argsL := argsL) (rest := rest) (hlen _ hsigR) hstack hdg
  rcases hK m meth c ⟨T.setVm vm₁, locs, cells, slots⟩ { g with stack := rest } (.invokevirtual index) mk (Value.ref b :: argsL).toArray X₁ hg hsize hdg hW (X₁.named hnamed) (hpre vm₁ X₁.warmed) with ⟨v, B, X', hpost, hsteps⟩ | ⟨q, B, X', hpost, hsteps⟩
  · exact Or.inl ⟨v, vm₁, B, X₁.warmed, X', hpost, fun target h => hstep₁ _ fun acts => by rw [doInvoke_state]; exact hsteps.trans h⟩
  · exact Or.inr ⟨q, vm₁, B, X₁.warmed, X', hpost, hstep₁ _ fun acts => by rw [doInvoke_state]; exact hsteps⟩
theorem vx_runU {x y : MethodName} {bytes cc : ByteArray} {maxL nL mc ms n index : Nat} {ret : Option FieldType} {ws : List Cond} {rm : Room} {Pc : Array Value → State → Prop} {Qc : Array Value → State → Outcome → State → Prop} {XC : String → State → State → Prop} {free : Addr → Prop} {Ts : List Cond} {own C owner : String} {b : Addr} {As rest : List Value} {g : JFrame}
    (S : CallFix p m c cc nL s args Ts own) (hM : vx_Met l y ws rm Pc Qc XC mc ms free) (cw : va_CU R s args own C owner index x y bytes maxL ret ws rm mc ms n) (hp : PreV s H C b Pc As)
    (hg : g.method = m) (hn : As.length = n) (hsize : g.locals.size = nL) (hstack : g.stack = As.reverse ++ .ref b :: rest) (hW : 2 * g.monitorRoom + (rest.map fun v => v.category).sum ≤ 8) (hdg : decode cc g.pc = .ok (.invokevirtual index, 3)) (hf : cells + mc ≤ R.cells ∧ slots + ms ≤ R.slots) :
    vx_Run p l e R s m args below meth c H locs cells slots mc ms g rest (Qc (Value.ref b :: As).toArray) XC free := by
  obtain ⟨hrc, hrs, hfr, hlo, hws, hcw⟩ := cw.back
  have hini := cw.init
  have hK : vx_Back l R p e below s args y 3 8 (PreOf R mc ms Pc) (PostOf Qc mc ms free) (vx_Post XC mc ms free) := vx_back (bytes := bytes) (maxL := maxL) (ret := ret) hM hp.1 hrc hrs hfr hlo hws hcw (fun a' U hW => word_at hW (Or.inl (by first | rfl | simp [Cond.onTables, Cond.keeps, Cond.steady])) hini)
  obtain ⟨hx, hb, hml, ho, -⟩ := S
  obtain ⟨-, ⟨cellB, hcB, hoB, hclB⟩, hPc⟩ := hp
  intro T hT X
  rcases vx_callVU X hx (C := C) (owner := owner) (bytes := bytes) (maxL := maxL) (ret := ret) ho cw.link cw.same cw.decl cw.notMH cw.sel cw.inst cw.code hK (by rw [hT]; exact hcB) hoB hclB hg (hsize.trans hml.symm) (argsL := As) (rest := rest) (fun sig h => hn.trans (cw.len sig h)) hstack hW (by rw [hb]; exact hdg)
    (fun vm₁ hW₁ => ⟨hf.1, hf.2, hPc (T.setVm vm₁) hT hW₁⟩) with ⟨v, vm₁, ⟨U', l2, c2, s2⟩, hW₁, X', ⟨g', mk, t, L, e1, e2, hq, h1, hL, h2, h3⟩, st⟩ | ⟨q, vm₁, ⟨U', l2, c2, s2⟩, hW₁, X', ⟨g', mk, t, L, E, ce, e1, e2, hq, hce, hcv, hcl, h1, hL, h2, h3⟩, st⟩
  · dsimp only [Pt.U, Pt.locs, Pt.cells, Pt.slots] at X' e1 e2 h1 h2 h3 st
    subst h1; subst h2; subst h3
    exact Or.inl ⟨v, (T.setVm vm₁).calling g' mk (Value.ref b :: As).toArray, t, U', L, hT, X', hL, e1, e2, hq, st⟩
  · dsimp only [Pt.U, Pt.locs, Pt.cells, Pt.slots] at X' e1 e2 h1 h2 h3 st hcl
    subst h1; subst h2; subst h3
    exact Or.inr ⟨q, (T.setVm vm₁).calling g' mk (Value.ref b :: As).toArray, t, U', L, E, ce, hT, X', hL, e1, e2, hq, hce, hcv, vx_cls hW₁ hcl, st⟩
end
/-! ===== END ===== -/
/-! ===== BEGIN super.m(..) that may throw (follows va_callSU, va_runSU) ===== -/
section
variable {p : Program} {l : Launch} {e : Env} {R : Room} {s : State} {m : MethodId} {args : Array Value} {below : List Frame} {meth : Method} {c : Code} {H : Heap} {locs : List Loc} {cells slots : Nat}
theorem vx_callSU {T : State} {locs : List Loc} {cells slots : Nat} (X : Stand p l e R s m args below meth c T locs cells slots) (hexec : p.tables.exec = Jvm.exec) {own : String} {index : Nat} {y : MethodName} {bytes : ByteArray} {maxL : Nat} {ret : Option FieldType}
    (hown : s.vm.findClass own = some m.cls) (hlink : (Cond.methodLink own index y).before args s = true) (hsame : (Cond.sameMethod y.cls y.cls y.name y.desc).before args s = true) (hsup : (Cond.superclass own y.cls).before args s = true)
    (hinst : (Cond.instanceMethod y).before args s = true) (hcode : (Cond.code y bytes maxL ret).before args s = true) (hno : y.name ≠ "<init>")
    {W : Nat} {Pre : Pt → Array Value → Prop} {Post : Pt → Array Value → Option Value → Pt → Prop} {PostX : Pt → Array Value → Addr → Pt → Prop} (hK : vx_Back l R p e below s args y 3 W Pre Post PostX)
    {b : Addr} {cellB : Cell} {kB : Class} (hcell : T.heap[b]? = some cellB) (hobj : cellB.vm.isStatics = false) (hkB : s.vm.classes[cellB.cls]? = some kB)
    {g : JFrame} (hg : g.method = m) (hsize : g.locals.size = c.maxLocals) {argsL rest : List Value} (hlen : ∀ sig, parseMethodDescriptor y.desc = some sig → argsL.length = sig.parameters.length)
    (hstack : g.stack = argsL.reverse ++ .ref b :: rest) (hW : 2 * g.monitorRoom + (rest.map fun v => v.category).sum ≤ W) (hdg : decode c.code g.pc = .ok (.invokespecial index, 3))
    (hpre : ∀ vm₁, s.WarmedH vm₁ → Pre ⟨T.setVm vm₁, locs, cells, slots⟩ (Value.ref b :: argsL).toArray) :
    (∃ (v : Option Value) (vm₁ : Vm) (B : Pt), s.WarmedH vm₁ ∧ Stand p l e R s m args below meth c B.U B.locs B.cells B.slots ∧ Post ⟨T.setVm vm₁, locs, cells, slots⟩ (Value.ref b :: argsL).toArray v B ∧
      ∀ target, Steps p.tables e below (B.U.setTop { g with pc := g.pc + 3, stack := v.toList ++ rest }) target → Steps p.tables e below (T.setTop g) target) ∨
    (∃ (q : Addr) (vm₁ : Vm) (B : Pt), s.WarmedH vm₁ ∧ Stand p l e R s m args below meth c B.U B.locs B.cells B.slots ∧ PostX ⟨T.setVm vm₁, locs, cells, slots⟩ (Value.ref b :: argsL).toArray q B ∧
      Steps p.tables e below (T.setTop g) ((B.U.setTop { g with stack := rest }).pushFrame (.throwing q))) := by
  obtain ⟨mk, methM, hnamed, hmethM, hstM, habM⟩ := Cond.instanceMethod_spec hinst
  obtain ⟨methM', cM, hmethM', -, -, -, -, -, -, hsigM⟩ := Cond.code_spec hnamed hcode
  cases hmethM.symm.trans hmethM'
  obtain ⟨ps, dk, kp, hps, hdk, hkp, hsuper, -, -, hnid⟩ := Cond.superclass_spec hown hsup
  have hn : s.methodNamed? ⟨y.cls, y.name, y.desc⟩ = some mk := hnamed
  have hpm : ps = mk.cls := Option.some.inj (hps.symm.trans (findClass_of_methodNamed hnamed))
  have hsub : s.vm.isSubclass ps mk.cls = true := by rw [hpm]; simp [Vm.isSubclass, Vm.isSubclassAux]
  obtain ⟨vm₁, X₁, hstep₁⟩ := X.invokespecialUp hexec hown hlink hsame hn hmethM hstM habM hno hdk hnid hps hsuper hsub (a := b) (cell := cellB) hcell
    (fun z h => by rw [h] at hobj; cases hobj) hkB (g := g) hg (argsL := argsL) (rest := rest) (hlen _ hsigM) hstack hdg
  rcases hK m meth c ⟨T.setVm vm₁, locs, cells, slots⟩ { g with stack := rest } (.invokespecial index) mk (Value.ref b :: argsL).toArray X₁ hg hsize hdg hW (X₁.named hnamed) (hpre vm₁ X₁.warmed) with ⟨v, B, X', hpost, hsteps⟩ | ⟨q, B, X', hpost, hsteps⟩
  · exact Or.inl ⟨v, vm₁, B, X₁.warmed, X', hpost, fun target h => hstep₁ _ (by rw [doInvoke_state]; exact hsteps.trans h)⟩
  · exact Or.inr ⟨q, vm₁, B, X₁.warmed, X', hpost, hstep₁ _ (by rw [doInvoke_state]; exact hsteps)⟩
theorem vx_runSU {y : MethodName} {bytes cc : ByteArray} {maxL nL mc ms n index : Nat} {ret : Option FieldType} {ws : List Cond} {rm : Room} {Pc : Array Value → State → Prop} {Qc : Array Value → State → Outcome → State → Prop} {XC : String → State → State → Prop} {free : Addr → Prop} {Ts : List Cond} {own C : String} {cC : ClassId} {b : Addr} {As rest : List Value} {g : JFrame}
    (hat : ClassAt s C cC) (S : CallFix p m c cc nL s args Ts own) (hM : vx_Met l y ws rm Pc Qc XC mc ms free) (cw : va_CS R s args own index y bytes maxL ret ws rm mc ms n) (hp : PreV s H C b Pc As)
    (hg : g.method = m) (hn : As.length = n) (hsize : g.locals.size = nL) (hstack : g.stack = As.reverse ++ .ref b :: rest) (hW : 2 * g.monitorRoom + (rest.map fun v => v.category).sum ≤ 8) (hdg : decode cc g.pc = .ok (.invokespecial index, 3)) (hf : cells + mc ≤ R.cells ∧ slots + ms ≤ R.slots) :
    vx_Run p l e R s m args below meth c H locs cells slots mc ms g rest (Qc (Value.ref b :: As).toArray) XC free := by
  obtain ⟨⟨hrc, hrs, hfr, hlo, hws, hcw⟩, hl1, hl2, hl3, hl4, hini, hcode, hno, hlen⟩ := cw
  have hK : vx_Back l R p e below s args y 3 8 (PreOf R mc ms Pc) (PostOf Qc mc ms free) (vx_Post XC mc ms free) := vx_back (bytes := bytes) (maxL := maxL) (ret := ret) hM hp.1 hrc hrs hfr hlo hws hcw (fun a' U hW => word_at hW (Or.inl (by first | rfl | simp [Cond.onTables, Cond.keeps, Cond.steady])) hini)
  obtain ⟨hx, hb, hml, ho, -⟩ := S
  obtain ⟨-, ⟨cellB, hcB, hoB, hclB⟩, hPc⟩ := hp
  obtain ⟨hfc, kB, hkB, -⟩ := hat
  cases hfc.symm.trans hclB
  intro T hT X
  rcases vx_callSU X hx (bytes := bytes) (maxL := maxL) (ret := ret) ho hl1 hl2 hl3 hl4 hcode hno hK (by rw [hT]; exact hcB) hoB hkB hg (hsize.trans hml.symm) (argsL := As) (rest := rest) (fun sig h => hn.trans (hlen sig h)) hstack hW (by rw [hb]; exact hdg)
    (fun vm₁ hW₁ => ⟨hf.1, hf.2, hPc (T.setVm vm₁) hT hW₁⟩) with ⟨v, vm₁, ⟨U', l2, c2, s2⟩, hW₁, X', ⟨g', mk, t, L, e1, e2, hq, h1, hL, h2, h3⟩, st⟩ | ⟨q, vm₁, ⟨U', l2, c2, s2⟩, hW₁, X', ⟨g', mk, t, L, E, ce, e1, e2, hq, hce, hcv, hcl, h1, hL, h2, h3⟩, st⟩
  · dsimp only [Pt.U, Pt.locs, Pt.cells, Pt.slots] at X' e1 e2 h1 h2 h3 st
    subst h1; subst h2; subst h3
    exact Or.inl ⟨v, (T.setVm vm₁).calling g' mk (Value.ref b :: As).toArray, t, U', L, hT, X', hL, e1, e2, hq, st⟩
  · dsimp only [Pt.U, Pt.locs, Pt.cells, Pt.slots] at X' e1 e2 h1 h2 h3 st hcl
    subst h1; subst h2; subst h3
    exact Or.inr ⟨q, (T.setVm vm₁).calling g' mk (Value.ref b :: As).toArray, t, U', L, E, ce, hT, X', hL, e1, e2, hq, hce, hcv, vx_cls hW₁ hcl, st⟩
end
/-! ===== END ===== -/
/-! ===== BEGIN a private method of a nest mate that may throw (follows va_callVN, va_callSN, va_runVN, va_runSN) ===== -/
section
variable {p : Program} {l : Launch} {e : Env} {R : Room} {s : State} {m : MethodId} {args : Array Value} {below : List Frame} {meth : Method} {c : Code} {H : Heap} {locs : List Loc} {cells slots : Nat}
variable {T : State}
theorem vx_callVN (X : Stand p l e R s m args below meth c T locs cells slots) (hexec : p.tables.exec = Jvm.exec) {own C : String} {index : Nat} {host : String} {y : MethodName} {bytes : ByteArray} {maxL : Nat} {ret : Option FieldType}
    (hown : s.vm.findClass own = some m.cls) (hlink : (Cond.methodLinkNest own index y host).before args s = true) (hinst : (Cond.instanceMethod y).before args s = true) (hsel : (Cond.selects C y y).before args s = true)
    (hcode : (Cond.code y bytes maxL ret).before args s = true) (hy : y.cls ≠ "java/lang/invoke/MethodHandle" ∧ y.cls ≠ "java/lang/invoke/VarHandle")
    {W : Nat} {Pre : Pt → Array Value → Prop} {Post : Pt → Array Value → Option Value → Pt → Prop} {PostX : Pt → Array Value → Addr → Pt → Prop} (hK : vx_Back l R p e below s args y 3 W Pre Post PostX)
    {b : Addr} {cellB : Cell} (hcell : T.heap[b]? = some cellB) (hobj : cellB.vm.isStatics = false) (hcls : s.vm.findClass C = some cellB.cls)
    {g : JFrame} (hg : g.method = m) (hsize : g.locals.size = c.maxLocals) {argsL rest : List Value} (hlen : ∀ sig, parseMethodDescriptor y.desc = some sig → argsL.length = sig.parameters.length)
    (hstack : g.stack = argsL.reverse ++ .ref b :: rest) (hW : 2 * g.monitorRoom + (rest.map fun v => v.category).sum ≤ W) (hdg : decode c.code g.pc = .ok (.invokevirtual index, 3))
    (hpre : ∀ vm₁, s.WarmedH vm₁ → Pre ⟨T.setVm vm₁, locs, cells, slots⟩ (Value.ref b :: argsL).toArray) :
    (∃ (v : Option Value) (vm₁ : Vm) (B : Pt), s.WarmedH vm₁ ∧ Stand p l e R s m args below meth c B.U B.locs B.cells B.slots ∧ Post ⟨T.setVm vm₁, locs, cells, slots⟩ (Value.ref b :: argsL).toArray v B ∧
      ∀ target, Steps p.tables e below (B.U.setTop { g with pc := g.pc + 3, stack := v.toList ++ rest }) target → Steps p.tables e below (T.setTop g) target) ∨
    (∃ (q : Addr) (vm₁ : Vm) (B : Pt), s.WarmedH vm₁ ∧ Stand p l e R s m args below meth c B.U B.locs B.cells B.slots ∧ PostX ⟨T.setVm vm₁, locs, cells, slots⟩ (Value.ref b :: argsL).toArray q B ∧
      Steps p.tables e below (T.setTop g) ((B.U.setTop { g with stack := rest }).pushFrame (.throwing q))) := by
  obtain ⟨mk, methM, hnamed, hmethM, hstM, habM⟩ := Cond.instanceMethod_spec hinst
  obtain ⟨methM', cM, hmethM', -, -, -, -, -, -, hsigM⟩ := Cond.code_spec hnamed hcode
  cases hmethM.symm.trans hmethM'
  obtain ⟨c2, r2, m2, q1, q2, q3, q4, kP, hkP, hkPi⟩ := Cond.selects_spec hsel
  cases hcls.symm.trans q1
  cases (State.methodFound?_of_named hnamed hy).symm.trans q2
  cases hnamed.symm.trans q3
  have hselP : selectMethod e.platform s.vm cellB.cls mk = .method mk := by rw [Launch.admits_selectMethod X.admits]; exact q4
  obtain ⟨vm₁, X₁, hstep₁⟩ := X.invokevirtualNest hexec hown hlink hnamed hmethM hstM hkP hkPi hy (a := b) (cell := cellB) hcell
    (fun z h => by rw [h] at hobj; cases hobj) hselP hmethM habM hkP hkPi (g := g) hg (argsL := argsL) (rest := rest) (hlen _ hsigM) hstack hdg
  rcases hK m meth c ⟨T.setVm vm₁, locs, cells, slots⟩ { g with stack := rest } (.invokevirtual index) mk (Value.ref b :: argsL).toArray X₁ hg hsize hdg hW (X₁.named hnamed) (hpre vm₁ X₁.warmed) with ⟨v, B, X', hpost, hsteps⟩ | ⟨q, B, X', hpost, hsteps⟩
  · exact Or.inl ⟨v, vm₁, B, X₁.warmed, X', hpost, fun target h => hstep₁ _ fun acts => by rw [doInvoke_state]; exact hsteps.trans h⟩
  · exact Or.inr ⟨q, vm₁, B, X₁.warmed, X', hpost, hstep₁ _ fun acts => by rw [doInvoke_state]; exact hsteps⟩
theorem vx_callSN (X : Stand p l e R s m args below meth c T locs cells slots) (hexec : p.tables.exec = Jvm.exec) {own : String} {index : Nat} {host : String} {y : MethodName} {bytes : ByteArray} {maxL : Nat} {ret : Option FieldType}
    (hown : s.vm.findClass own = some m.cls) (hlink : (Cond.methodLinkNest own index y host).before args s = true) (hstat : (Cond.static y).before args s = true) (hinit : (Cond.initialized y.cls).before args s = true)
    (hcode : (Cond.code y bytes maxL ret).before args s = true) (hy : y.cls ≠ "java/lang/invoke/MethodHandle" ∧ y.cls ≠ "java/lang/invoke/VarHandle")
    {W : Nat} {Pre : Pt → Array Value → Prop} {Post : Pt → Array Value → Option Value → Pt → Prop} {PostX : Pt → Array Value → Addr → Pt → Prop} (hK : vx_Back l R p e below s args y 3 W Pre Post PostX)
    {g : JFrame} (hg : g.method = m) (hsize : g.locals.size = c.maxLocals) {argsL rest : List Value} (hlen : ∀ sig, parseMethodDescriptor y.desc = some sig → argsL.length = sig.parameters.length)
    (hstack : g.stack = argsL.reverse ++ rest) (hW : 2 * g.monitorRoom + (rest.map fun v => v.category).sum ≤ W) (hdg : decode c.code g.pc = .ok (.invokestatic index, 3))
    (hpre : ∀ vm₁, s.WarmedH vm₁ → Pre ⟨T.setVm vm₁, locs, cells, slots⟩ argsL.toArray) :
    (∃ (v : Option Value) (vm₁ : Vm) (B : Pt), s.WarmedH vm₁ ∧ Stand p l e R s m args below meth c B.U B.locs B.cells B.slots ∧ Post ⟨T.setVm vm₁, locs, cells, slots⟩ argsL.toArray v B ∧
      ∀ target, Steps p.tables e below (B.U.setTop { g with pc := g.pc + 3, stack := v.toList ++ rest }) target → Steps p.tables e below (T.setTop g) target) ∨
    (∃ (q : Addr) (vm₁ : Vm) (B : Pt), s.WarmedH vm₁ ∧ Stand p l e R s m args below meth c B.U B.locs B.cells B.slots ∧ PostX ⟨T.setVm vm₁, locs, cells, slots⟩ argsL.toArray q B ∧
      Steps p.tables e below (T.setTop g) ((B.U.setTop { g with stack := rest }).pushFrame (.throwing q))) := by
  obtain ⟨mk, hnamed⟩ := Cond.code_named hcode
  obtain ⟨methM, cM, hmethM, -, -, -, -, -, -, hsigM⟩ := Cond.code_spec hnamed hcode
  have hstatic : methM.isStatic = true := Cond.static_spec hnamed hmethM hstat
  obtain ⟨kP, hkP, -⟩ := className_of_methodNamed hnamed
  have hinitP : kP.init = .initialized := Cond.initialized_spec (findClass_of_methodNamed hnamed) hkP hinit
  obtain ⟨vm₁, X₁, hstep₁⟩ := X.invokestaticNest hexec hown hlink hnamed hmethM hstatic hkP hinitP hy (g := g) hg (argsL := argsL) (rest := rest) (hlen _ hsigM) hstack hdg
  rcases hK m meth c ⟨T.setVm vm₁, locs, cells, slots⟩ { g with stack := rest } (.invokestatic index) mk argsL.toArray X₁ hg hsize hdg hW (X₁.named hnamed) (hpre vm₁ X₁.warmed) with ⟨v, B, X', hpost, hsteps⟩ | ⟨q, B, X', hpost, hsteps⟩
  · exact Or.inl ⟨v, vm₁, B, X₁.warmed, X', hpost, fun target h => hstep₁ _ fun acts => by rw [doInvoke_state]; exact hsteps.trans h⟩
  · exact Or.inr ⟨q, vm₁, B, X₁.warmed, X', hpost, hstep₁ _ fun acts => by rw [doInvoke_state]; exact hsteps⟩
theorem vx_runVN {y : MethodName} {bytes cc : ByteArray} {maxL nL mc ms n index : Nat} {ret : Option FieldType} {ws : List Cond} {rm : Room} {Pc : Array Value → State → Prop} {Qc : Array Value → State → Outcome → State → Prop} {XC : String → State → State → Prop} {free : Addr → Prop} {Ts : List Cond} {own C host : String} {b : Addr} {As rest : List Value} {g : JFrame}
    (S : CallFix p m c cc nL s args Ts own) (hM : vx_Met l y ws rm Pc Qc XC mc ms free) (cw : va_CN R s args own index y host bytes maxL ret ws rm mc ms n ∧ (Cond.instanceMethod y).before args s = true ∧ (Cond.selects C y y).before args s = true) (hp : PreV s H C b Pc As)
    (hg : g.method = m) (hn : As.length = n) (hsize : g.locals.size = nL) (hstack : g.stack = As.reverse ++ .ref b :: rest) (hW : 2 * g.monitorRoom + (rest.map fun v => v.category).sum ≤ 8) (hdg : decode cc g.pc = .ok (.invokevirtual index, 3)) (hf : cells + mc ≤ R.cells ∧ slots + ms ≤ R.slots) :
    vx_Run p l e R s m args below meth c H locs cells slots mc ms g rest (Qc (Value.ref b :: As).toArray) XC free := by
  obtain ⟨⟨⟨hrc, hrs, hfr, hlo, hws, hcw⟩, hcode, hini, hy, hlen, hl⟩, hx1, hx2⟩ := cw
  have hK : vx_Back l R p e below s args y 3 8 (PreOf R mc ms Pc) (PostOf Qc mc ms free) (vx_Post XC mc ms free) := vx_back (bytes := bytes) (maxL := maxL) (ret := ret) hM hp.1 hrc hrs hfr hlo hws hcw (fun a' U hW => word_at hW (Or.inl (by first | rfl | simp [Cond.onTables, Cond.keeps, Cond.steady])) hini)
  obtain ⟨hx, hb, hml, ho, -⟩ := S
  obtain ⟨-, ⟨cellB, hcB, hoB, hclB⟩, hPc⟩ := hp
  intro T hT X
  rcases vx_callVN X hx (C := C) (bytes := bytes) (maxL := maxL) (ret := ret) ho hl hx1 hx2 hcode hy hK (by rw [hT]; exact hcB) hoB hclB hg (hsize.trans hml.symm) (argsL := As) (rest := rest) (fun sig h => hn.trans (hlen sig h)) hstack hW (by rw [hb]; exact hdg)
    (fun vm₁ hW₁ => ⟨hf.1, hf.2, hPc (T.setVm vm₁) hT hW₁⟩) with ⟨v, vm₁, ⟨U', l2, c2, s2⟩, hW₁, X', ⟨g', mk, t, L, e1, e2, hq, h1, hL, h2, h3⟩, st⟩ | ⟨q, vm₁, ⟨U', l2, c2, s2⟩, hW₁, X', ⟨g', mk, t, L, E, ce, e1, e2, hq, hce, hcv, hcl, h1, hL, h2, h3⟩, st⟩
  · dsimp only [Pt.U, Pt.locs, Pt.cells, Pt.slots] at X' e1 e2 h1 h2 h3 st
    subst h1; subst h2; subst h3
    exact Or.inl ⟨v, (T.setVm vm₁).calling g' mk (Value.ref b :: As).toArray, t, U', L, hT, X', hL, e1, e2, hq, st⟩
  · dsimp only [Pt.U, Pt.locs, Pt.cells, Pt.slots] at X' e1 e2 h1 h2 h3 st hcl
    subst h1; subst h2; subst h3
    exact Or.inr ⟨q, (T.setVm vm₁).calling g' mk (Value.ref b :: As).toArray, t, U', L, E, ce, hT, X', hL, e1, e2, hq, hce, hcv, vx_cls hW₁ hcl, st⟩
theorem vx_runSN {y : MethodName} {bytes cc : ByteArray} {maxL nL mc ms n index : Nat} {ret : Option FieldType} {ws : List Cond} {rm : Room} {Pc : Array Value → State → Prop} {Qc : Array Value → State → Outcome → State → Prop} {XC : String → State → State → Prop} {free : Addr → Prop} {Ts : List Cond} {own host : String} {As rest : List Value} {g : JFrame}
    (S : CallFix p m c cc nL s args Ts own) (hM : vx_Met l y ws rm Pc Qc XC mc ms free) (cw : va_CN R s args own index y host bytes maxL ret ws rm mc ms n ∧ (Cond.static y).before args s = true ∧ True) (hp : PreS s H Pc As)
    (hg : g.method = m) (hn : As.length = n) (hsize : g.locals.size = nL) (hstack : g.stack = As.reverse ++ rest) (hW : 2 * g.monitorRoom + (rest.map fun v => v.category).sum ≤ 8) (hdg : decode cc g.pc = .ok (.invokestatic index, 3)) (hf : cells + mc ≤ R.cells ∧ slots + ms ≤ R.slots) :
    vx_Run p l e R s m args below meth c H locs cells slots mc ms g rest (Qc As.toArray) XC free := by
  obtain ⟨⟨⟨hrc, hrs, hfr, hlo, hws, hcw⟩, hcode, hini, hy, hlen, hl⟩, hx1, hx2⟩ := cw
  have hK : vx_Back l R p e below s args y 3 8 (PreOf R mc ms Pc) (PostOf Qc mc ms free) (vx_Post XC mc ms free) := vx_back (bytes := bytes) (maxL := maxL) (ret := ret) hM hp.1 hrc hrs hfr hlo hws hcw (fun a' U hW => word_at hW (Or.inl (by first | rfl | simp [Cond.onTables, Cond.keeps, Cond.steady])) hini)
  obtain ⟨hx, hb, hml, ho, -⟩ := S
  have hPc := hp.2
  intro T hT X
  rcases vx_callSN X hx (bytes := bytes) (maxL := maxL) (ret := ret) ho hl hx1 hini hcode hy hK hg (hsize.trans hml.symm) (argsL := As) (rest := rest) (fun sig h => hn.trans (hlen sig h)) hstack hW (by rw [hb]; exact hdg)
    (fun vm₁ hW₁ => ⟨hf.1, hf.2, hPc (T.setVm vm₁) hT hW₁⟩) with ⟨v, vm₁, ⟨U', l2, c2, s2⟩, hW₁, X', ⟨g', mk, t, L, e1, e2, hq, h1, hL, h2, h3⟩, st⟩ | ⟨q, vm₁, ⟨U', l2, c2, s2⟩, hW₁, X', ⟨g', mk, t, L, E, ce, e1, e2, hq, hce, hcv, hcl, h1, hL, h2, h3⟩, st⟩
  · dsimp only [Pt.U, Pt.locs, Pt.cells, Pt.slots] at X' e1 e2 h1 h2 h3 st
    subst h1; subst h2; subst h3
    exact Or.inl ⟨v, (T.setVm vm₁).calling g' mk As.toArray, t, U', L, hT, X', hL, e1, e2, hq, st⟩
  · dsimp only [Pt.U, Pt.locs, Pt.cells, Pt.slots] at X' e1 e2 h1 h2 h3 st hcl
    subst h1; subst h2; subst h3
    exact Or.inr ⟨q, (T.setVm vm₁).calling g' mk As.toArray, t, U', L, E, ce, hT, X', hL, e1, e2, hq, hce, hcv, vx_cls hW₁ hcl, st⟩
end
/-! ===== END ===== -/
/-! ===== BEGIN calls by an interface of methods that may throw (vx_callIF, vx_runF follow va_callIF, va_runF of this kit) ===== -/
section
variable {p : Program} {l : Launch} {e : Env} {R : Room} {s : State} {m : MethodId} {args : Array Value} {below : List Frame} {meth : Method} {c : Code} {H : Heap} {locs : List Loc} {cells slots : Nat} {Q : State → Prop}
variable {mc ms : Nat} {free : Addr → Prop} {A0 A1 : Nat → Prop} {H0 : Heap} {a : Array Value} {pc : Nat} {ls : Array Slot} {st0 rest : List Value}
def vx_Run5 (p : Program) (l : Launch) (e : Env) (R : Room) (s : State) (m : MethodId) (args : Array Value) (below : List Frame) (meth : Method) (c : Code) (H : Heap) (locs : List Loc) (cells slots mc ms : Nat) (g : JFrame) (rest : List Value) (Qa : State → Outcome → State → Prop) (XC : String → State → State → Prop) (free : Addr → Prop) : Prop :=
  ∀ T : State, T.heap = H → Stand p l e R s m args below meth c T locs cells slots →
    (∃ (v : Option Value) (st₀ t T' : State) (L : List Loc), st₀.heap = H ∧ Stand p l e R s m args below meth c T' (locs ++ L) (cells + mc) (slots + ms) ∧ (∀ q ∈ L, free q.base) ∧ T'.heap = t.heap ∧ T'.vm = t.vm ∧ Qa st₀ (.returned v) t ∧
      Goes p e below T g T' { g with pc := g.pc + 5, stack := v.toList ++ rest }) ∨
    (∃ (q : Addr) (st₀ t T' : State) (L : List Loc) (E : String) (ce : Cell), st₀.heap = H ∧ Stand p l e R s m args below meth c T' (locs ++ L) (cells + mc) (slots + ms) ∧ (∀ z ∈ L, free z.base) ∧ T'.heap = t.heap ∧ T'.vm = t.vm ∧ XC E st₀ t ∧ t.heap[q]? = some ce ∧ ce.vm = .none ∧ s.vm.findClass E = some ce.cls ∧
      Steps p.tables e below (T.setTop g) ((T'.setTop { g with stack := rest }).pushFrame (.throwing q)))
theorem vx_callIF {T : State} (X : Stand p l e R s m args below meth c T locs cells slots) (hexec : p.tables.exec = Jvm.exec) {own C : String} {index count : Nat} {x y : MethodName} {bytes : ByteArray} {maxL : Nat} {ret : Option FieldType}
    (hown : s.vm.findClass own = some m.cls) (hlink : (Cond.methodLink own index x).before args s = true) (hdecl : (Cond.declares x).before args s = true) (hface : (Cond.interfaceMethod x.cls x.cls x.name x.desc).before args s = true)
    (hsel : (Cond.selects C x y).before args s = true) (hinst : (Cond.instanceMethod y).before args s = true) (hpub : (Cond.publicMethod y).before args s = true) (hunh : (Cond.unhidden C x.name x.desc).before args s = true)
    (hcast : (Cond.castable C x.cls).before args s = true) (hcode : (Cond.code y bytes maxL ret).before args s = true) (hx : x.cls ≠ "java/lang/invoke/MethodHandle" ∧ x.cls ≠ "java/lang/invoke/VarHandle")
    {W9 : Nat} {Pre : Pt → Array Value → Prop} {Post : Pt → Array Value → Option Value → Pt → Prop} {PostX : Pt → Array Value → Addr → Pt → Prop} (hK : vx_Back l R p e below s args y 5 W9 Pre Post PostX)
    {b : Addr} {cellB : Cell} {kB : Class} (hcell : T.heap[b]? = some cellB) (hobj : cellB.vm.isStatics = false) (hcls : s.vm.findClass C = some cellB.cls) (hkB : s.vm.classes[cellB.cls]? = some kB)
    {g : JFrame} (hg : g.method = m) (hsize : g.locals.size = c.maxLocals) {argsL rest : List Value} (hlen : ∀ sig, parseMethodDescriptor x.desc = some sig → argsL.length = sig.parameters.length)
    (hstack : g.stack = argsL.reverse ++ .ref b :: rest) (hW : 2 * g.monitorRoom + (rest.map fun v => v.category).sum ≤ W9) (hdg : decode c.code g.pc = .ok (.invokeinterface index count, 5))
    (hpre : ∀ vm₁, s.WarmedH vm₁ → Pre ⟨T.setVm vm₁, locs, cells, slots⟩ (Value.ref b :: argsL).toArray) :
    (∃ (v : Option Value) (vm₁ : Vm) (B : Pt), s.WarmedH vm₁ ∧ Stand p l e R s m args below meth c B.U B.locs B.cells B.slots ∧ Post ⟨T.setVm vm₁, locs, cells, slots⟩ (Value.ref b :: argsL).toArray v B ∧
      ∀ target, Steps p.tables e below (B.U.setTop { g with pc := g.pc + 5, stack := v.toList ++ rest }) target → Steps p.tables e below (T.setTop g) target) ∨
    (∃ (q : Addr) (vm₁ : Vm) (B : Pt), s.WarmedH vm₁ ∧ Stand p l e R s m args below meth c B.U B.locs B.cells B.slots ∧ PostX ⟨T.setVm vm₁, locs, cells, slots⟩ (Value.ref b :: argsL).toArray q B ∧
      Steps p.tables e below (T.setTop g) ((B.U.setTop { g with stack := rest }).pushFrame (.throwing q))) := by
  obtain ⟨r0, r, hn, hrm, hstR, hsigR⟩ := Cond.declares_spec hdecl
  obtain ⟨cL, kL, r1, hcL, hkL, hiL, hfoundL, hn1⟩ := Cond.interfaceMethod_spec hface
  cases hn.symm.trans hn1
  have hr0cls : r0.cls = cL := Option.some.inj ((findClass_of_methodNamed hn).symm.trans hcL)
  obtain ⟨hnameR, hdescR⟩ := name_of_methodNamed hn hrm
  obtain ⟨mk, methM, hnamed, hmethM, -, habM⟩ := Cond.instanceMethod_spec hinst
  obtain ⟨c2, r2, m2, q1, q2, q3, q4, -⟩ := Cond.selects_spec hsel
  cases hcls.symm.trans q1
  cases hfoundL.symm.trans q2
  cases hnamed.symm.trans q3
  have hselP : selectMethod e.platform s.vm cellB.cls r0 = .method mk := by rw [Launch.admits_selectMethod X.admits]; exact q4
  have hpubM : hasFlag methM.accessFlags Acc.public_ = true := Cond.publicMethod_spec hnamed hmethM hpub
  have hway : ((cellB.cls :: s.vm.superclasses cellB.cls).any fun k => (declaredIn s.vm r.name r.desc k).any fun (_, z) => z.isPrivate || z.isStatic) = false := by
    rw [hnameR, hdescR]; exact Cond.unhidden_spec hcls hunh
  obtain ⟨c3, t3, w1, w2, w3⟩ := Cond.castable_spec hcast
  cases hcls.symm.trans w1
  cases hcL.symm.trans w2
  obtain ⟨vm₁, X₁, hstep₁⟩ := X.invokeinterface hexec hown hlink hn hrm hstR (by rw [hr0cls]; exact hkL) hiL hx (a := b) (cell := cellB) (kcell := kB) hcell
    (fun z h => by rw [h] at hobj; cases hobj) hkB (by rw [hr0cls]; exact w3) hselP hmethM hway hpubM habM (g := g) hg (argsL := argsL) (rest := rest) (hlen _ hsigR) hstack hdg
  rcases hK m meth c ⟨T.setVm vm₁, locs, cells, slots⟩ { g with stack := rest } (.invokeinterface index count) mk (Value.ref b :: argsL).toArray X₁ hg hsize hdg hW (X₁.named hnamed) (hpre vm₁ X₁.warmed) with ⟨v, B, X', hpost, hsteps⟩ | ⟨q, B, X', hpost, hsteps⟩
  · exact Or.inl ⟨v, vm₁, B, X₁.warmed, X', hpost, fun target h => hstep₁ _ fun acts => by rw [doInvoke_state]; exact hsteps.trans h⟩
  · exact Or.inr ⟨q, vm₁, B, X₁.warmed, X', hpost, hstep₁ _ fun acts => by rw [doInvoke_state]; exact hsteps⟩
theorem vx_runF {x y : MethodName} {bytes cc : ByteArray} {maxL nL mc ms n index count : Nat} {ret : Option FieldType} {ws : List Cond} {rm : Room} {Pc : Array Value → State → Prop} {Qc : Array Value → State → Outcome → State → Prop} {XC : String → State → State → Prop} {free : Addr → Prop} {Ts : List Cond} {own C : String} {cC : ClassId} {b : Addr} {As rest : List Value} {g : JFrame}
    (hat : ClassAt s C cC) (S : CallFix p m c cc nL s args Ts own) (hM : vx_Met l y ws rm Pc Qc XC mc ms free) (cw : va_CI R s args own C index x y bytes maxL ret ws rm mc ms n) (hp : PreV s H C b Pc As)
    (hg : g.method = m) (hn : As.length = n) (hsize : g.locals.size = nL) (hstack : g.stack = As.reverse ++ .ref b :: rest) (hW : 2 * g.monitorRoom + (rest.map fun v => v.category).sum ≤ 8) (hdg : decode cc g.pc = .ok (.invokeinterface index count, 5)) (hf : cells + mc ≤ R.cells ∧ slots + ms ≤ R.slots) :
    vx_Run5 p l e R s m args below meth c H locs cells slots mc ms g rest (Qc (Value.ref b :: As).toArray) XC free := by
  obtain ⟨hrc, hrs, hfr, hlo, hws, hcw⟩ := cw.back
  have hini := cw.init
  have hK : vx_Back l R p e below s args y 5 8 (PreOf R mc ms Pc) (PostOf Qc mc ms free) (vx_Post XC mc ms free) := vx_back (bytes := bytes) (maxL := maxL) (ret := ret) hM hp.1 hrc hrs hfr hlo hws hcw (fun a' U hW => word_at hW (Or.inl (by first | rfl | simp [Cond.onTables, Cond.keeps, Cond.steady])) hini)
  obtain ⟨hx, hb, hml, ho, -⟩ := S
  obtain ⟨-, ⟨cellB, hcB, hoB, hclB⟩, hPc⟩ := hp
  obtain ⟨hfc, kB, hkB, -⟩ := hat
  cases hfc.symm.trans hclB
  intro T hT X
  rcases vx_callIF X hx (C := C) (bytes := bytes) (maxL := maxL) (ret := ret) ho cw.link cw.decl cw.face cw.sel cw.inst cw.pub cw.unh cw.cast cw.code cw.notMH hK (by rw [hT]; exact hcB) hoB hclB hkB hg (hsize.trans hml.symm) (argsL := As) (rest := rest) (fun sig h => hn.trans (cw.len sig h)) hstack hW (by rw [hb]; exact hdg)
    (fun vm₁ hW₁ => ⟨hf.1, hf.2, hPc (T.setVm vm₁) hT hW₁⟩) with ⟨v, vm₁, ⟨U', l2, c2, s2⟩, hW₁, X', ⟨g', mk, t, L, e1, e2, hq, h1, hL, h2, h3⟩, st⟩ | ⟨q, vm₁, ⟨U', l2, c2, s2⟩, hW₁, X', ⟨g', mk, t, L, E, ce, e1, e2, hq, hce, hcv, hcl, h1, hL, h2, h3⟩, st⟩
  · dsimp only [Pt.U, Pt.locs, Pt.cells, Pt.slots] at X' e1 e2 h1 h2 h3 st
    subst h1; subst h2; subst h3
    exact Or.inl ⟨v, (T.setVm vm₁).calling g' mk (Value.ref b :: As).toArray, t, U', L, hT, X', hL, e1, e2, hq, st⟩
  · dsimp only [Pt.U, Pt.locs, Pt.cells, Pt.slots] at X' e1 e2 h1 h2 h3 st hcl
    subst h1; subst h2; subst h3
    exact Or.inr ⟨q, (T.setVm vm₁).calling g' mk (Value.ref b :: As).toArray, t, U', L, E, ce, hT, X', hL, e1, e2, hq, hce, hcv, vx_cls hW₁ hcl, st⟩
theorem vx_callFv {S SX : Type} {post : S → Prop} {px : SX → Prop} {B : S → State → Prop} {BX : String → SX → State → Prop} {AX : Nat → Prop} (hr : vx_Run5 p l e R s m args below meth c H locs cells slots mc ms (F0 m pc ls st0) rest (va_Qv post B A1 a) (vx_X px BX AX) free) (hS : va_S A0 H0 H locs) (hA : ∀ q, q < H.size → A1 q → A0 q) (hf : ∀ q, free q → A0 q) (hAX : ∀ q, q < H.size → AX q → A0 q)
    (kx : ∀ (E : String) (ce : Cell) (q9 : Addr) (u : SX) (t : State) (H1 : Heap) (locs1 : List Loc), t.heap = H1 → s.vm.Alike t.vm → px u → BX E u t → H.size ≤ H1.size → (∀ q : Nat, q < H.size → ¬ AX q → H1[q]? = H[q]?) → va_S A0 H0 H1 locs1 → H1[q9]? = some ce → ce.vm = .none → s.vm.findClass E = some ce.cls → vx_W p l e R s m args below meth c H1 locs1 (cells + mc) (slots + ms) Q (F0 m pc ls rest) q9)
    (kk : ∀ (u : S) (t : State) (H1 : Heap) (locs1 : List Loc), t.heap = H1 → s.vm.Alike t.vm → post u → B u t → H.size ≤ H1.size → (∀ q : Nat, q < H.size → ¬ A1 q → H1[q]? = H[q]?) → va_S A0 H0 H1 locs1 → W p l e R s m args below meth c H1 locs1 (cells + mc) (slots + ms) Q (F0 m (pc + 5) ls (rest))) : W p l e R s m args below meth c H locs cells slots Q (F0 m pc ls st0) := by
  intro T hT X
  rcases hr T hT X with ⟨v, st₀, t, T', L, h0, X', hL, e1, e2, ⟨⟨u, hv, hp, hb⟩, hF⟩, st⟩ | ⟨q, st₀, t, T', L, E, ce, h0, X', hL, e1, e2, ⟨u, hp, hb, hF⟩, hce, hcv, hcl, st⟩
  · cases hv
    obtain ⟨k1, k2, k3⟩ := vx_keep h0 e1 hS hA hf hL hF
    obtain ⟨t2, a1, b1⟩ := kk u t T'.heap (locs ++ L) e1.symm (by rw [← e2]; exact X'.warmed.alike) hp hb k1 k2 k3 T' rfl X'
    exact ⟨t2, st t2 a1, b1⟩
  · obtain ⟨k1, k2, k3⟩ := vx_keep h0 e1 hS hAX hf hL hF
    obtain ⟨t2, a1, b1⟩ := kx E ce q u t T'.heap (locs ++ L) e1.symm (by rw [← e2]; exact X'.warmed.alike) hp hb k1 k2 k3 (by rw [e1]; exact hce) hcv hcl T' rfl X'
    exact ⟨t2, st.trans a1, b1⟩
theorem vx_callFi {S SX : Type} {post : Int32 → S → Prop} {px : SX → Prop} {B : S → State → Prop} {BX : String → SX → State → Prop} {AX : Nat → Prop} (hr : vx_Run5 p l e R s m args below meth c H locs cells slots mc ms (F0 m pc ls st0) rest (va_Qi post B A1 a) (vx_X px BX AX) free) (hS : va_S A0 H0 H locs) (hA : ∀ q, q < H.size → A1 q → A0 q) (hf : ∀ q, free q → A0 q) (hAX : ∀ q, q < H.size → AX q → A0 q)
    (kx : ∀ (E : String) (ce : Cell) (q9 : Addr) (u : SX) (t : State) (H1 : Heap) (locs1 : List Loc), t.heap = H1 → s.vm.Alike t.vm → px u → BX E u t → H.size ≤ H1.size → (∀ q : Nat, q < H.size → ¬ AX q → H1[q]? = H[q]?) → va_S A0 H0 H1 locs1 → H1[q9]? = some ce → ce.vm = .none → s.vm.findClass E = some ce.cls → vx_W p l e R s m args below meth c H1 locs1 (cells + mc) (slots + ms) Q (F0 m pc ls rest) q9)
    (kk : ∀ (r : Int32) (u : S) (t : State) (H1 : Heap) (locs1 : List Loc), t.heap = H1 → s.vm.Alike t.vm → post r u → B u t → H.size ≤ H1.size → (∀ q : Nat, q < H.size → ¬ A1 q → H1[q]? = H[q]?) → va_S A0 H0 H1 locs1 → W p l e R s m args below meth c H1 locs1 (cells + mc) (slots + ms) Q (F0 m (pc + 5) ls (.int r :: rest))) : W p l e R s m args below meth c H locs cells slots Q (F0 m pc ls st0) := by
  intro T hT X
  rcases hr T hT X with ⟨v, st₀, t, T', L, h0, X', hL, e1, e2, ⟨⟨r, u, hv, hp, hb⟩, hF⟩, st⟩ | ⟨q, st₀, t, T', L, E, ce, h0, X', hL, e1, e2, ⟨u, hp, hb, hF⟩, hce, hcv, hcl, st⟩
  · cases hv
    obtain ⟨k1, k2, k3⟩ := vx_keep h0 e1 hS hA hf hL hF
    obtain ⟨t2, a1, b1⟩ := kk r u t T'.heap (locs ++ L) e1.symm (by rw [← e2]; exact X'.warmed.alike) hp hb k1 k2 k3 T' rfl X'
    exact ⟨t2, st t2 a1, b1⟩
  · obtain ⟨k1, k2, k3⟩ := vx_keep h0 e1 hS hAX hf hL hF
    obtain ⟨t2, a1, b1⟩ := kx E ce q u t T'.heap (locs ++ L) e1.symm (by rw [← e2]; exact X'.warmed.alike) hp hb k1 k2 k3 (by rw [e1]; exact hce) hcv hcl T' rfl X'
    exact ⟨t2, st.trans a1, b1⟩
theorem vx_callFl {S SX : Type} {post : Int64 → S → Prop} {px : SX → Prop} {B : S → State → Prop} {BX : String → SX → State → Prop} {AX : Nat → Prop} (hr : vx_Run5 p l e R s m args below meth c H locs cells slots mc ms (F0 m pc ls st0) rest (va_Ql post B A1 a) (vx_X px BX AX) free) (hS : va_S A0 H0 H locs) (hA : ∀ q, q < H.size → A1 q → A0 q) (hf : ∀ q, free q → A0 q) (hAX : ∀ q, q < H.size → AX q → A0 q)
    (kx : ∀ (E : String) (ce : Cell) (q9 : Addr) (u : SX) (t : State) (H1 : Heap) (locs1 : List Loc), t.heap = H1 → s.vm.Alike t.vm → px u → BX E u t → H.size ≤ H1.size → (∀ q : Nat, q < H.size → ¬ AX q → H1[q]? = H[q]?) → va_S A0 H0 H1 locs1 → H1[q9]? = some ce → ce.vm = .none → s.vm.findClass E = some ce.cls → vx_W p l e R s m args below meth c H1 locs1 (cells + mc) (slots + ms) Q (F0 m pc ls rest) q9)
    (kk : ∀ (r : Int64) (u : S) (t : State) (H1 : Heap) (locs1 : List Loc), t.heap = H1 → s.vm.Alike t.vm → post r u → B u t → H.size ≤ H1.size → (∀ q : Nat, q < H.size → ¬ A1 q → H1[q]? = H[q]?) → va_S A0 H0 H1 locs1 → W p l e R s m args below meth c H1 locs1 (cells + mc) (slots + ms) Q (F0 m (pc + 5) ls (.long r :: rest))) : W p l e R s m args below meth c H locs cells slots Q (F0 m pc ls st0) := by
  intro T hT X
  rcases hr T hT X with ⟨v, st₀, t, T', L, h0, X', hL, e1, e2, ⟨⟨r, u, hv, hp, hb⟩, hF⟩, st⟩ | ⟨q, st₀, t, T', L, E, ce, h0, X', hL, e1, e2, ⟨u, hp, hb, hF⟩, hce, hcv, hcl, st⟩
  · cases hv
    obtain ⟨k1, k2, k3⟩ := vx_keep h0 e1 hS hA hf hL hF
    obtain ⟨t2, a1, b1⟩ := kk r u t T'.heap (locs ++ L) e1.symm (by rw [← e2]; exact X'.warmed.alike) hp hb k1 k2 k3 T' rfl X'
    exact ⟨t2, st t2 a1, b1⟩
  · obtain ⟨k1, k2, k3⟩ := vx_keep h0 e1 hS hAX hf hL hF
    obtain ⟨t2, a1, b1⟩ := kx E ce q u t T'.heap (locs ++ L) e1.symm (by rw [← e2]; exact X'.warmed.alike) hp hb k1 k2 k3 (by rw [e1]; exact hce) hcv hcl T' rfl X'
    exact ⟨t2, st.trans a1, b1⟩
theorem vx_callFf {S SX : Type} {post : UInt32 → S → Prop} {px : SX → Prop} {B : S → State → Prop} {BX : String → SX → State → Prop} {AX : Nat → Prop} (hr : vx_Run5 p l e R s m args below meth c H locs cells slots mc ms (F0 m pc ls st0) rest (va_Qf post B A1 a) (vx_X px BX AX) free) (hS : va_S A0 H0 H locs) (hA : ∀ q, q < H.size → A1 q → A0 q) (hf : ∀ q, free q → A0 q) (hAX : ∀ q, q < H.size → AX q → A0 q)
    (kx : ∀ (E : String) (ce : Cell) (q9 : Addr) (u : SX) (t : State) (H1 : Heap) (locs1 : List Loc), t.heap = H1 → s.vm.Alike t.vm → px u → BX E u t → H.size ≤ H1.size → (∀ q : Nat, q < H.size → ¬ AX q → H1[q]? = H[q]?) → va_S A0 H0 H1 locs1 → H1[q9]? = some ce → ce.vm = .none → s.vm.findClass E = some ce.cls → vx_W p l e R s m args below meth c H1 locs1 (cells + mc) (slots + ms) Q (F0 m pc ls rest) q9)
    (kk : ∀ (r : UInt32) (u : S) (t : State) (H1 : Heap) (locs1 : List Loc), t.heap = H1 → s.vm.Alike t.vm → post r u → B u t → H.size ≤ H1.size → (∀ q : Nat, q < H.size → ¬ A1 q → H1[q]? = H[q]?) → va_S A0 H0 H1 locs1 → W p l e R s m args below meth c H1 locs1 (cells + mc) (slots + ms) Q (F0 m (pc + 5) ls (.float r :: rest))) : W p l e R s m args below meth c H locs cells slots Q (F0 m pc ls st0) := by
  intro T hT X
  rcases hr T hT X with ⟨v, st₀, t, T', L, h0, X', hL, e1, e2, ⟨⟨r, u, hv, hp, hb⟩, hF⟩, st⟩ | ⟨q, st₀, t, T', L, E, ce, h0, X', hL, e1, e2, ⟨u, hp, hb, hF⟩, hce, hcv, hcl, st⟩
  · cases hv
    obtain ⟨k1, k2, k3⟩ := vx_keep h0 e1 hS hA hf hL hF
    obtain ⟨t2, a1, b1⟩ := kk r u t T'.heap (locs ++ L) e1.symm (by rw [← e2]; exact X'.warmed.alike) hp hb k1 k2 k3 T' rfl X'
    exact ⟨t2, st t2 a1, b1⟩
  · obtain ⟨k1, k2, k3⟩ := vx_keep h0 e1 hS hAX hf hL hF
    obtain ⟨t2, a1, b1⟩ := kx E ce q u t T'.heap (locs ++ L) e1.symm (by rw [← e2]; exact X'.warmed.alike) hp hb k1 k2 k3 (by rw [e1]; exact hce) hcv hcl T' rfl X'
    exact ⟨t2, st.trans a1, b1⟩
theorem vx_callFd {S SX : Type} {post : UInt64 → S → Prop} {px : SX → Prop} {B : S → State → Prop} {BX : String → SX → State → Prop} {AX : Nat → Prop} (hr : vx_Run5 p l e R s m args below meth c H locs cells slots mc ms (F0 m pc ls st0) rest (va_Qd post B A1 a) (vx_X px BX AX) free) (hS : va_S A0 H0 H locs) (hA : ∀ q, q < H.size → A1 q → A0 q) (hf : ∀ q, free q → A0 q) (hAX : ∀ q, q < H.size → AX q → A0 q)
    (kx : ∀ (E : String) (ce : Cell) (q9 : Addr) (u : SX) (t : State) (H1 : Heap) (locs1 : List Loc), t.heap = H1 → s.vm.Alike t.vm → px u → BX E u t → H.size ≤ H1.size → (∀ q : Nat, q < H.size → ¬ AX q → H1[q]? = H[q]?) → va_S A0 H0 H1 locs1 → H1[q9]? = some ce → ce.vm = .none → s.vm.findClass E = some ce.cls → vx_W p l e R s m args below meth c H1 locs1 (cells + mc) (slots + ms) Q (F0 m pc ls rest) q9)
    (kk : ∀ (r : UInt64) (u : S) (t : State) (H1 : Heap) (locs1 : List Loc), t.heap = H1 → s.vm.Alike t.vm → post r u → B u t → H.size ≤ H1.size → (∀ q : Nat, q < H.size → ¬ A1 q → H1[q]? = H[q]?) → va_S A0 H0 H1 locs1 → W p l e R s m args below meth c H1 locs1 (cells + mc) (slots + ms) Q (F0 m (pc + 5) ls (.double r :: rest))) : W p l e R s m args below meth c H locs cells slots Q (F0 m pc ls st0) := by
  intro T hT X
  rcases hr T hT X with ⟨v, st₀, t, T', L, h0, X', hL, e1, e2, ⟨⟨r, u, hv, hp, hb⟩, hF⟩, st⟩ | ⟨q, st₀, t, T', L, E, ce, h0, X', hL, e1, e2, ⟨u, hp, hb, hF⟩, hce, hcv, hcl, st⟩
  · cases hv
    obtain ⟨k1, k2, k3⟩ := vx_keep h0 e1 hS hA hf hL hF
    obtain ⟨t2, a1, b1⟩ := kk r u t T'.heap (locs ++ L) e1.symm (by rw [← e2]; exact X'.warmed.alike) hp hb k1 k2 k3 T' rfl X'
    exact ⟨t2, st t2 a1, b1⟩
  · obtain ⟨k1, k2, k3⟩ := vx_keep h0 e1 hS hAX hf hL hF
    obtain ⟨t2, a1, b1⟩ := kx E ce q u t T'.heap (locs ++ L) e1.symm (by rw [← e2]; exact X'.warmed.alike) hp hb k1 k2 k3 (by rw [e1]; exact hce) hcv hcl T' rfl X'
    exact ⟨t2, st.trans a1, b1⟩
end
/-! ===== END ===== -/
/-! ===== BEGIN by an interface, a method with a table of its own that may throw (follows va_callIFW, va_runFW) ===== -/
section
variable {p : Program} {l : Launch} {e : Env} {R : Room} {s : State} {m : MethodId} {args : Array Value} {below : List Frame} {meth : Method} {c : Code} {H : Heap} {locs : List Loc} {cells slots : Nat}
theorem vx_callIFW {T : State} (X : Stand p l e R s m args below meth c T locs cells slots) (hexec : p.tables.exec = Jvm.exec) {own C : String} {index count : Nat} {x y : MethodName} {bytes : ByteArray} {maxL : Nat} {ret : Option FieldType} {hh : List (Nat × Nat × Nat × Nat)}
    (hown : s.vm.findClass own = some m.cls) (hlink : (Cond.methodLink own index x).before args s = true) (hdecl : (Cond.declares x).before args s = true) (hface : (Cond.interfaceMethod x.cls x.cls x.name x.desc).before args s = true)
    (hsel : (Cond.selects C x y).before args s = true) (hinst : (Cond.instanceMethod y).before args s = true) (hpub : (Cond.publicMethod y).before args s = true) (hunh : (Cond.unhidden C x.name x.desc).before args s = true)
    (hcast : (Cond.castable C x.cls).before args s = true) (hcode : (Cond.codeWith y bytes maxL ret hh).before args s = true) (hx : x.cls ≠ "java/lang/invoke/MethodHandle" ∧ x.cls ≠ "java/lang/invoke/VarHandle")
    {W : Nat} {Pre : Pt → Array Value → Prop} {Post : Pt → Array Value → Option Value → Pt → Prop} {PostX : Pt → Array Value → Addr → Pt → Prop} (hK : vx_Back l R p e below s args y 5 W Pre Post PostX)
    {b : Addr} {cellB : Cell} {kB : Class} (hcell : T.heap[b]? = some cellB) (hobj : cellB.vm.isStatics = false) (hcls : s.vm.findClass C = some cellB.cls) (hkB : s.vm.classes[cellB.cls]? = some kB)
    {g : JFrame} (hg : g.method = m) (hsize : g.locals.size = c.maxLocals) {argsL rest : List Value} (hlen : ∀ sig, parseMethodDescriptor x.desc = some sig → argsL.length = sig.parameters.length)
    (hstack : g.stack = argsL.reverse ++ .ref b :: rest) (hW : 2 * g.monitorRoom + (rest.map fun v => v.category).sum ≤ W) (hdg : decode c.code g.pc = .ok (.invokeinterface index count, 5))
    (hpre : ∀ vm₁, s.WarmedH vm₁ → Pre ⟨T.setVm vm₁, locs, cells, slots⟩ (Value.ref b :: argsL).toArray) :
    (∃ (v : Option Value) (vm₁ : Vm) (B : Pt), s.WarmedH vm₁ ∧ Stand p l e R s m args below meth c B.U B.locs B.cells B.slots ∧ Post ⟨T.setVm vm₁, locs, cells, slots⟩ (Value.ref b :: argsL).toArray v B ∧
      ∀ target, Steps p.tables e below (B.U.setTop { g with pc := g.pc + 5, stack := v.toList ++ rest }) target → Steps p.tables e below (T.setTop g) target) ∨
    (∃ (q : Addr) (vm₁ : Vm) (B : Pt), s.WarmedH vm₁ ∧ Stand p l e R s m args below meth c B.U B.locs B.cells B.slots ∧ PostX ⟨T.setVm vm₁, locs, cells, slots⟩ (Value.ref b :: argsL).toArray q B ∧
      Steps p.tables e below (T.setTop g) ((B.U.setTop { g with stack := rest }).pushFrame (.throwing q))) := by
  obtain ⟨r0, r, hn, hrm, hstR, hsigR⟩ := Cond.declares_spec hdecl
  obtain ⟨cL, kL, r1, hcL, hkL, hiL, hfoundL, hn1⟩ := Cond.interfaceMethod_spec hface
  cases hn.symm.trans hn1
  have hr0cls : r0.cls = cL := Option.some.inj ((findClass_of_methodNamed hn).symm.trans hcL)
  obtain ⟨hnameR, hdescR⟩ := name_of_methodNamed hn hrm
  obtain ⟨mk, methM, hnamed, hmethM, -, habM⟩ := Cond.instanceMethod_spec hinst
  obtain ⟨c2, r2, m2, q1, q2, q3, q4, -⟩ := Cond.selects_spec hsel
  cases hcls.symm.trans q1
  cases hfoundL.symm.trans q2
  cases hnamed.symm.trans q3
  have hselP : selectMethod e.platform s.vm cellB.cls r0 = .method mk := by rw [Launch.admits_selectMethod X.admits]; exact q4
  have hpubM : hasFlag methM.accessFlags Acc.public_ = true := Cond.publicMethod_spec hnamed hmethM hpub
  have hway : ((cellB.cls :: s.vm.superclasses cellB.cls).any fun k => (declaredIn s.vm r.name r.desc k).any fun (_, z) => z.isPrivate || z.isStatic) = false := by
    rw [hnameR, hdescR]; exact Cond.unhidden_spec hcls hunh
  obtain ⟨c3, t3, w1, w2, w3⟩ := Cond.castable_spec hcast
  cases hcls.symm.trans w1
  cases hcL.symm.trans w2
  obtain ⟨vm₁, X₁, hstep₁⟩ := X.invokeinterface hexec hown hlink hn hrm hstR (by rw [hr0cls]; exact hkL) hiL hx (a := b) (cell := cellB) (kcell := kB) hcell
    (fun z h => by rw [h] at hobj; cases hobj) hkB (by rw [hr0cls]; exact w3) hselP hmethM hway hpubM habM (g := g) hg (argsL := argsL) (rest := rest) (hlen _ hsigR) hstack hdg
  rcases hK m meth c ⟨T.setVm vm₁, locs, cells, slots⟩ { g with stack := rest } (.invokeinterface index count) mk (Value.ref b :: argsL).toArray X₁ hg hsize hdg hW (X₁.named hnamed) (hpre vm₁ X₁.warmed) with ⟨v, B, X', hpost, hsteps⟩ | ⟨q, B, X', hpost, hsteps⟩
  · exact Or.inl ⟨v, vm₁, B, X₁.warmed, X', hpost, fun target h => hstep₁ _ fun acts => by rw [doInvoke_state]; exact hsteps.trans h⟩
  · exact Or.inr ⟨q, vm₁, B, X₁.warmed, X', hpost, hstep₁ _ fun acts => by rw [doInvoke_state]; exact hsteps⟩
theorem vx_runFW {x y : MethodName} {bytes cc : ByteArray} {maxL nL mc ms n index count : Nat} {ret : Option FieldType} {hh : List (Nat × Nat × Nat × Nat)} {ws : List Cond} {rm : Room} {Pc : Array Value → State → Prop} {Qc : Array Value → State → Outcome → State → Prop} {XC : String → State → State → Prop} {free : Addr → Prop} {Ts : List Cond} {own C : String} {cC : ClassId} {b : Addr} {As rest : List Value} {g : JFrame}
    (hat : ClassAt s C cC) (S : CallFix p m c cc nL s args Ts own) (hM : vx_Met l y ws rm Pc Qc XC mc ms free) (cw : va_CIW R s args own C index x y bytes maxL ret hh ws rm mc ms n) (hp : PreV s H C b Pc As)
    (hg : g.method = m) (hn : As.length = n) (hsize : g.locals.size = nL) (hstack : g.stack = As.reverse ++ .ref b :: rest) (hW : 2 * g.monitorRoom + (rest.map fun v => v.category).sum ≤ 8) (hdg : decode cc g.pc = .ok (.invokeinterface index count, 5)) (hf : cells + mc ≤ R.cells ∧ slots + ms ≤ R.slots) :
    vx_Run5 p l e R s m args below meth c H locs cells slots mc ms g rest (Qc (Value.ref b :: As).toArray) XC free := by
  obtain ⟨hrc, hrs, hfr, hlo, hws, hcw⟩ := cw.back
  have hini := cw.init
  have hK : vx_Back l R p e below s args y 5 8 (PreOf R mc ms Pc) (PostOf Qc mc ms free) (vx_Post XC mc ms free) := vx_backW (hh := hh) (bytes := bytes) (maxL := maxL) (ret := ret) hM hp.1 hrc hrs hfr hlo hws hcw (fun a' U hW => word_at hW (Or.inl (by first | rfl | simp [Cond.onTables, Cond.keeps, Cond.steady])) hini)
  obtain ⟨hx, hb, hml, ho, -⟩ := S
  obtain ⟨-, ⟨cellB, hcB, hoB, hclB⟩, hPc⟩ := hp
  obtain ⟨hfc, kB, hkB, -⟩ := hat
  cases hfc.symm.trans hclB
  intro T hT X
  rcases vx_callIFW X hx (C := C) (hh := hh) (bytes := bytes) (maxL := maxL) (ret := ret) ho cw.link cw.decl cw.face cw.sel cw.inst cw.pub cw.unh cw.cast cw.code cw.notMH hK (by rw [hT]; exact hcB) hoB hclB hkB hg (hsize.trans hml.symm) (argsL := As) (rest := rest) (fun sig h => hn.trans (cw.len sig h)) hstack hW (by rw [hb]; exact hdg)
    (fun vm₁ hW₁ => ⟨hf.1, hf.2, hPc (T.setVm vm₁) hT hW₁⟩) with ⟨v, vm₁, ⟨U', l2, c2, s2⟩, hW₁, X', ⟨g', mk, t, L, e1, e2, hq, h1, hL, h2, h3⟩, st⟩ | ⟨q, vm₁, ⟨U', l2, c2, s2⟩, hW₁, X', ⟨g', mk, t, L, E, ce, e1, e2, hq, hce, hcv, hcl, h1, hL, h2, h3⟩, st⟩
  · dsimp only [Pt.U, Pt.locs, Pt.cells, Pt.slots] at X' e1 e2 h1 h2 h3 st
    subst h1; subst h2; subst h3
    exact Or.inl ⟨v, (T.setVm vm₁).calling g' mk (Value.ref b :: As).toArray, t, U', L, hT, X', hL, e1, e2, hq, st⟩
  · dsimp only [Pt.U, Pt.locs, Pt.cells, Pt.slots] at X' e1 e2 h1 h2 h3 st hcl
    subst h1; subst h2; subst h3
    exact Or.inr ⟨q, (T.setVm vm₁).calling g' mk (Value.ref b :: As).toArray, t, U', L, E, ce, hT, X', hL, e1, e2, hq, hce, hcv, vx_cls hW₁ hcl, st⟩
end
/-! ===== END ===== -/
/-! ===== BEGIN .. of methods that hand back an object of the pool ===== -/
section
variable {p : Program} {l : Launch} {e : Env} {R : Room} {s : State} {m : MethodId} {args : Array Value} {below : List Frame} {meth : Method} {c : Code} {H : Heap} {locs : List Loc} {cells slots : Nat} {Q : State → Prop}
variable {mc ms : Nat} {free : Addr → Prop} {A0 A1 : Nat → Prop} {H0 : Heap} {a : Array Value} {pc : Nat} {ls : Array Slot} {st0 rest : List Value}
theorem vx_callq {S SX : Type} {post : Option Nat → S → Prop} {px : SX → Prop} {B : S → State → Prop} {BX : String → SX → State → Prop} {AX : Nat → Prop} (hr : vx_Run p l e R s m args below meth c H locs cells slots mc ms (F0 m pc ls st0) rest (va_Qq post B A1 a) (vx_X px BX AX) free) (hS : va_S A0 H0 H locs) (hA : ∀ q, q < H.size → A1 q → A0 q) (hf : ∀ q, free q → A0 q) (hAX : ∀ q, q < H.size → AX q → A0 q)
    (kx : ∀ (E : String) (ce : Cell) (q9 : Addr) (u : SX) (t : State) (H1 : Heap) (locs1 : List Loc), t.heap = H1 → s.vm.Alike t.vm → px u → BX E u t → H.size ≤ H1.size → (∀ q : Nat, q < H.size → ¬ AX q → H1[q]? = H[q]?) → va_S A0 H0 H1 locs1 → H1[q9]? = some ce → ce.vm = .none → s.vm.findClass E = some ce.cls → vx_W p l e R s m args below meth c H1 locs1 (cells + mc) (slots + ms) Q (F0 m pc ls rest) q9)
    (kk : ∀ (r : Option Nat) (u : S) (t : State) (H1 : Heap) (locs1 : List Loc), t.heap = H1 → s.vm.Alike t.vm → post r u → B u t → H.size ≤ H1.size → (∀ q : Nat, q < H.size → ¬ A1 q → H1[q]? = H[q]?) → va_S A0 H0 H1 locs1 → W p l e R s m args below meth c H1 locs1 (cells + mc) (slots + ms) Q (F0 m (pc + 3) ls (va_rf r :: rest))) : W p l e R s m args below meth c H locs cells slots Q (F0 m pc ls st0) := by
  intro T hT X
  rcases hr T hT X with ⟨v, st₀, t, T', L, h0, X', hL, e1, e2, ⟨⟨r, u, hv, hp, hb⟩, hF⟩, st⟩ | ⟨q, st₀, t, T', L, E, ce, h0, X', hL, e1, e2, ⟨u, hp, hb, hF⟩, hce, hcv, hcl, st⟩
  · cases hv
    obtain ⟨k1, k2, k3⟩ := vx_keep h0 e1 hS hA hf hL hF
    obtain ⟨t2, a1, b1⟩ := kk r u t T'.heap (locs ++ L) e1.symm (by rw [← e2]; exact X'.warmed.alike) hp hb k1 k2 k3 T' rfl X'
    exact ⟨t2, st t2 a1, b1⟩
  · obtain ⟨k1, k2, k3⟩ := vx_keep h0 e1 hS hAX hf hL hF
    obtain ⟨t2, a1, b1⟩ := kx E ce q u t T'.heap (locs ++ L) e1.symm (by rw [← e2]; exact X'.warmed.alike) hp hb k1 k2 k3 (by rw [e1]; exact hce) hcv hcl T' rfl X'
    exact ⟨t2, st.trans a1, b1⟩
end
/-! ===== END ===== -/
/-! ===== BEGIN .. a constant ===== -/
section
variable {p : Program} {l : Launch} {e : Env} {R : Room} {s : State} {m : MethodId} {args : Array Value} {below : List Frame} {meth : Method} {c : Code} {H : Heap} {locs : List Loc} {cells slots : Nat} {Q : State → Prop}
variable {mc ms : Nat} {free : Addr → Prop} {A0 A1 : Nat → Prop} {H0 : Heap} {a : Array Value} {pc : Nat} {ls : Array Slot} {st0 rest : List Value}
theorem vx_calle {ad : Nat → Nat} {S SX : Type} {post : Option Nat → S → Prop} {px : SX → Prop} {B : S → State → Prop} {BX : String → SX → State → Prop} {AX : Nat → Prop} (hr : vx_Run p l e R s m args below meth c H locs cells slots mc ms (F0 m pc ls st0) rest (va_Qe ad post B A1 a) (vx_X px BX AX) free) (hS : va_S A0 H0 H locs) (hA : ∀ q, q < H.size → A1 q → A0 q) (hf : ∀ q, free q → A0 q) (hAX : ∀ q, q < H.size → AX q → A0 q)
    (kx : ∀ (E : String) (ce : Cell) (q9 : Addr) (u : SX) (t : State) (H1 : Heap) (locs1 : List Loc), t.heap = H1 → s.vm.Alike t.vm → px u → BX E u t → H.size ≤ H1.size → (∀ q : Nat, q < H.size → ¬ AX q → H1[q]? = H[q]?) → va_S A0 H0 H1 locs1 → H1[q9]? = some ce → ce.vm = .none → s.vm.findClass E = some ce.cls → vx_W p l e R s m args below meth c H1 locs1 (cells + mc) (slots + ms) Q (F0 m pc ls rest) q9)
    (kk : ∀ (r : Option Nat) (u : S) (t : State) (H1 : Heap) (locs1 : List Loc), t.heap = H1 → s.vm.Alike t.vm → post r u → B u t → H.size ≤ H1.size → (∀ q : Nat, q < H.size → ¬ A1 q → H1[q]? = H[q]?) → va_S A0 H0 H1 locs1 → W p l e R s m args below meth c H1 locs1 (cells + mc) (slots + ms) Q (F0 m (pc + 3) ls (va_re ad r :: rest))) : W p l e R s m args below meth c H locs cells slots Q (F0 m pc ls st0) := by
  intro T hT X
  rcases hr T hT X with ⟨v, st₀, t, T', L, h0, X', hL, e1, e2, ⟨⟨r, u, hv, hp, hb⟩, hF⟩, st⟩ | ⟨q, st₀, t, T', L, E, ce, h0, X', hL, e1, e2, ⟨u, hp, hb, hF⟩, hce, hcv, hcl, st⟩
  · cases hv
    obtain ⟨k1, k2, k3⟩ := vx_keep h0 e1 hS hA hf hL hF
    obtain ⟨t2, a1, b1⟩ := kk r u t T'.heap (locs ++ L) e1.symm (by rw [← e2]; exact X'.warmed.alike) hp hb k1 k2 k3 T' rfl X'
    exact ⟨t2, st t2 a1, b1⟩
  · obtain ⟨k1, k2, k3⟩ := vx_keep h0 e1 hS hAX hf hL hF
    obtain ⟨t2, a1, b1⟩ := kx E ce q u t T'.heap (locs ++ L) e1.symm (by rw [← e2]; exact X'.warmed.alike) hp hb k1 k2 k3 (by rw [e1]; exact hce) hcv hcl T' rfl X'
    exact ⟨t2, st.trans a1, b1⟩
end
/-! ===== END ===== -/
/-! ===== BEGIN .. by an interface, an object ===== -/
section
variable {p : Program} {l : Launch} {e : Env} {R : Room} {s : State} {m : MethodId} {args : Array Value} {below : List Frame} {meth : Method} {c : Code} {H : Heap} {locs : List Loc} {cells slots : Nat} {Q : State → Prop}
variable {mc ms : Nat} {free : Addr → Prop} {A0 A1 : Nat → Prop} {H0 : Heap} {a : Array Value} {pc : Nat} {ls : Array Slot} {st0 rest : List Value}
theorem vx_callFq {S SX : Type} {post : Option Nat → S → Prop} {px : SX → Prop} {B : S → State → Prop} {BX : String → SX → State → Prop} {AX : Nat → Prop} (hr : vx_Run5 p l e R s m args below meth c H locs cells slots mc ms (F0 m pc ls st0) rest (va_Qq post B A1 a) (vx_X px BX AX) free) (hS : va_S A0 H0 H locs) (hA : ∀ q, q < H.size → A1 q → A0 q) (hf : ∀ q, free q → A0 q) (hAX : ∀ q, q < H.size → AX q → A0 q)
    (kx : ∀ (E : String) (ce : Cell) (q9 : Addr) (u : SX) (t : State) (H1 : Heap) (locs1 : List Loc), t.heap = H1 → s.vm.Alike t.vm → px u → BX E u t → H.size ≤ H1.size → (∀ q : Nat, q < H.size → ¬ AX q → H1[q]? = H[q]?) → va_S A0 H0 H1 locs1 → H1[q9]? = some ce → ce.vm = .none → s.vm.findClass E = some ce.cls → vx_W p l e R s m args below meth c H1 locs1 (cells + mc) (slots + ms) Q (F0 m pc ls rest) q9)
    (kk : ∀ (r : Option Nat) (u : S) (t : State) (H1 : Heap) (locs1 : List Loc), t.heap = H1 → s.vm.Alike t.vm → post r u → B u t → H.size ≤ H1.size → (∀ q : Nat, q < H.size → ¬ A1 q → H1[q]? = H[q]?) → va_S A0 H0 H1 locs1 → W p l e R s m args below meth c H1 locs1 (cells + mc) (slots + ms) Q (F0 m (pc + 5) ls (va_rf r :: rest))) : W p l e R s m args below meth c H locs cells slots Q (F0 m pc ls st0) := by
  intro T hT X
  rcases hr T hT X with ⟨v, st₀, t, T', L, h0, X', hL, e1, e2, ⟨⟨r, u, hv, hp, hb⟩, hF⟩, st⟩ | ⟨q, st₀, t, T', L, E, ce, h0, X', hL, e1, e2, ⟨u, hp, hb, hF⟩, hce, hcv, hcl, st⟩
  · cases hv
    obtain ⟨k1, k2, k3⟩ := vx_keep h0 e1 hS hA hf hL hF
    obtain ⟨t2, a1, b1⟩ := kk r u t T'.heap (locs ++ L) e1.symm (by rw [← e2]; exact X'.warmed.alike) hp hb k1 k2 k3 T' rfl X'
    exact ⟨t2, st t2 a1, b1⟩
  · obtain ⟨k1, k2, k3⟩ := vx_keep h0 e1 hS hAX hf hL hF
    obtain ⟨t2, a1, b1⟩ := kx E ce q u t T'.heap (locs ++ L) e1.symm (by rw [← e2]; exact X'.warmed.alike) hp hb k1 k2 k3 (by rw [e1]; exact hce) hcv hcl T' rfl X'
    exact ⟨t2, st.trans a1, b1⟩
end
/-! ===== END ===== -/
/-! ===== BEGIN .. by an interface, a constant ===== -/
section
variable {p : Program} {l : Launch} {e : Env} {R : Room} {s : State} {m : MethodId} {args : Array Value} {below : List Frame} {meth : Method} {c : Code} {H : Heap} {locs : List Loc} {cells slots : Nat} {Q : State → Prop}
variable {mc ms : Nat} {free : Addr → Prop} {A0 A1 : Nat → Prop} {H0 : Heap} {a : Array Value} {pc : Nat} {ls : Array Slot} {st0 rest : List Value}
theorem vx_callFe {ad : Nat → Nat} {S SX : Type} {post : Option Nat → S → Prop} {px : SX → Prop} {B : S → State → Prop} {BX : String → SX → State → Prop} {AX : Nat → Prop} (hr : vx_Run5 p l e R s m args below meth c H locs cells slots mc ms (F0 m pc ls st0) rest (va_Qe ad post B A1 a) (vx_X px BX AX) free) (hS : va_S A0 H0 H locs) (hA : ∀ q, q < H.size → A1 q → A0 q) (hf : ∀ q, free q → A0 q) (hAX : ∀ q, q < H.size → AX q → A0 q)
    (kx : ∀ (E : String) (ce : Cell) (q9 : Addr) (u : SX) (t : State) (H1 : Heap) (locs1 : List Loc), t.heap = H1 → s.vm.Alike t.vm → px u → BX E u t → H.size ≤ H1.size → (∀ q : Nat, q < H.size → ¬ AX q → H1[q]? = H[q]?) → va_S A0 H0 H1 locs1 → H1[q9]? = some ce → ce.vm = .none → s.vm.findClass E = some ce.cls → vx_W p l e R s m args below meth c H1 locs1 (cells + mc) (slots + ms) Q (F0 m pc ls rest) q9)
    (kk : ∀ (r : Option Nat) (u : S) (t : State) (H1 : Heap) (locs1 : List Loc), t.heap = H1 → s.vm.Alike t.vm → post r u → B u t → H.size ≤ H1.size → (∀ q : Nat, q < H.size → ¬ A1 q → H1[q]? = H[q]?) → va_S A0 H0 H1 locs1 → W p l e R s m args below meth c H1 locs1 (cells + mc) (slots + ms) Q (F0 m (pc + 5) ls (va_re ad r :: rest))) : W p l e R s m args below meth c H locs cells slots Q (F0 m pc ls st0) := by
  intro T hT X
  rcases hr T hT X with ⟨v, st₀, t, T', L, h0, X', hL, e1, e2, ⟨⟨r, u, hv, hp, hb⟩, hF⟩, st⟩ | ⟨q, st₀, t, T', L, E, ce, h0, X', hL, e1, e2, ⟨u, hp, hb, hF⟩, hce, hcv, hcl, st⟩
  · cases hv
    obtain ⟨k1, k2, k3⟩ := vx_keep h0 e1 hS hA hf hL hF
    obtain ⟨t2, a1, b1⟩ := kk r u t T'.heap (locs ++ L) e1.symm (by rw [← e2]; exact X'.warmed.alike) hp hb k1 k2 k3 T' rfl X'
    exact ⟨t2, st t2 a1, b1⟩
  · obtain ⟨k1, k2, k3⟩ := vx_keep h0 e1 hS hAX hf hL hF
    obtain ⟨t2, a1, b1⟩ := kx E ce q u t T'.heap (locs ++ L) e1.symm (by rw [← e2]; exact X'.warmed.alike) hp hb k1 k2 k3 (by rw [e1]; exact hce) hcv hcl T' rfl X'
    exact ⟨t2, st.trans a1, b1⟩
end
/-! ===== END ===== -/
/-! ===== BEGIN what the machine throws by itself: null at a field, at athrow ===== -/
section VXM2
variable {p : Program} {l : Launch} {e : Env} {R : Room} {s : State} {m : MethodId} {args : Array Value} {below : List Frame} {meth : Method} {c : Code} {H : Heap} {locs : List Loc} {cells slots : Nat}
variable {Q : State → Prop} {cc : ByteArray} {pc : Nat} {ls : Array Slot} {rest : List Value}
theorem vx_getfN {D cl tys} {own ref C : String} {T : u_T} {N ci index : Nat} {Ts : List Cond} (hexec : p.tables.exec = Jvm.exec) (hb : c.code = cc) (hts : ∀ w ∈ Ts, w.before args s = true) (hin : ∀ w ∈ u_ws C T N, w ∈ Ts) (hown : s.vm.findClass own = some m.cls) (hK : va_K D cl tys s) (hc : cl[ci]? = some (C, T, N)) (k : Nat) (hk : k < N) (hlink : (Cond.fieldLink own index ref (T k).2.1 (T k).2.2.1).before args s = true) (hsame : ∀ x, s.fieldFound? (T k).1 (T k).2.1 (T k).2.2.1 = some x → s.fieldFound? ref (T k).2.1 (T k).2.2.1 = some x) (hdg : decode cc pc = .ok (.getfield index, 3)) (kk : vx_NoteN p l e R s m args below meth c H locs cells slots Q (F0 m pc ls rest)) : W p l e R s m args below meth c H locs cells slots Q (F0 m pc ls (.null :: rest)) := by
  obtain ⟨hS, hfc, kC, hkC, -⟩ := hK.1 ci _ hc
  obtain ⟨cf, kf, fi, f, hi, -⟩ := hS k hk
  intro U hU X
  obtain ⟨vm', X1, st1⟩ := X.getfieldNull hexec hown hlink (hsame _ hi) (u_facts hfc hkC (u_lays hts hin hk) hi).1 (g := F0 m pc ls (.null :: rest)) rfl (rest := rest) rfl (by rw [hb]; exact hdg)
  obtain ⟨t, st, q⟩ := kk (U.setVm vm') hU X1
  exact ⟨t, st1 t st, q⟩
theorem vx_getfNN {D cl tys} {own ref C host : String} {T : u_T} {N ci index : Nat} {Ts : List Cond} (hexec : p.tables.exec = Jvm.exec) (hb : c.code = cc) (hts : ∀ w ∈ Ts, w.before args s = true) (hin : ∀ w ∈ u_ws C T N, w ∈ Ts) (hown : s.vm.findClass own = some m.cls) (hK : va_K D cl tys s) (hc : cl[ci]? = some (C, T, N)) (k : Nat) (hk : k < N) (hlink : (Cond.fieldLinkNest own index ref (T k).2.1 (T k).2.2.1 host).before args s = true) (hsame : ∀ x, s.fieldFound? (T k).1 (T k).2.1 (T k).2.2.1 = some x → s.fieldFound? ref (T k).2.1 (T k).2.2.1 = some x) (hdg : decode cc pc = .ok (.getfield index, 3)) (kk : vx_NoteN p l e R s m args below meth c H locs cells slots Q (F0 m pc ls rest)) : W p l e R s m args below meth c H locs cells slots Q (F0 m pc ls (.null :: rest)) := by
  obtain ⟨hS, hfc, kC, hkC, -⟩ := hK.1 ci _ hc
  obtain ⟨cf, kf, fi, f, hi, -⟩ := hS k hk
  intro U hU X
  obtain ⟨vm', X1, st1⟩ := X.getfieldNullNest hexec hown hlink (hsame _ hi) (u_facts hfc hkC (u_lays hts hin hk) hi).1 (g := F0 m pc ls (.null :: rest)) rfl (rest := rest) rfl (by rw [hb]; exact hdg)
  obtain ⟨t, st, q⟩ := kk (U.setVm vm') hU X1
  exact ⟨t, st1 t st, q⟩
theorem vx_putfN {D cl tys} {own ref C : String} {T : u_T} {N ci index : Nat} {Ts : List Cond} (hexec : p.tables.exec = Jvm.exec) (hb : c.code = cc) (hts : ∀ w ∈ Ts, w.before args s = true) (hin : ∀ w ∈ u_ws C T N, w ∈ Ts) (hown : s.vm.findClass own = some m.cls) (hK : va_K D cl tys s) (hc : cl[ci]? = some (C, T, N)) (k : Nat) (hk : k < N) (hlink : (Cond.fieldLink own index ref (T k).2.1 (T k).2.2.1).before args s = true) (hsame : ∀ x, s.fieldFound? (T k).1 (T k).2.1 (T k).2.2.1 = some x → s.fieldFound? ref (T k).2.1 (T k).2.2.1 = some x) (hfin : (T k).2.2.2 = false) {v : Value} (hdg : decode cc pc = .ok (.putfield index, 3)) (kk : vx_NoteN p l e R s m args below meth c H locs cells slots Q (F0 m pc ls rest)) : W p l e R s m args below meth c H locs cells slots Q (F0 m pc ls (v :: .null :: rest)) := by
  obtain ⟨hS, hfc, kC, hkC, -⟩ := hK.1 ci _ hc
  obtain ⟨cf, kf, fi, f, hi, -⟩ := hS k hk
  have hlay := hts _ (hin _ (u_in_lay hk))
  unfold u_lay at hlay
  rw [if_neg (by rw [hfin]; decide)] at hlay
  obtain ⟨c9, k9, cf9, kf9, fi9, f9, -, -, hi9, hst9, hnf9, -⟩ := Cond.lays_spec hlay
  cases hi.symm.trans hi9
  intro U hU X
  obtain ⟨vm', X1, st1⟩ := X.putfieldNull hexec hown hlink (hsame _ hi) hst9 hnf9 (g := F0 m pc ls (v :: .null :: rest)) rfl (v := v) (rest := rest) rfl (by rw [hb]; exact hdg)
  obtain ⟨t, st, q⟩ := kk (U.setVm vm') hU X1
  exact ⟨t, st1 t st, q⟩
theorem vx_putfNN {D cl tys} {own ref C host : String} {T : u_T} {N ci index : Nat} {Ts : List Cond} (hexec : p.tables.exec = Jvm.exec) (hb : c.code = cc) (hts : ∀ w ∈ Ts, w.before args s = true) (hin : ∀ w ∈ u_ws C T N, w ∈ Ts) (hown : s.vm.findClass own = some m.cls) (hK : va_K D cl tys s) (hc : cl[ci]? = some (C, T, N)) (k : Nat) (hk : k < N) (hlink : (Cond.fieldLinkNest own index ref (T k).2.1 (T k).2.2.1 host).before args s = true) (hsame : ∀ x, s.fieldFound? (T k).1 (T k).2.1 (T k).2.2.1 = some x → s.fieldFound? ref (T k).2.1 (T k).2.2.1 = some x) (hfin : (T k).2.2.2 = false) {v : Value} (hdg : decode cc pc = .ok (.putfield index, 3)) (kk : vx_NoteN p l e R s m args below meth c H locs cells slots Q (F0 m pc ls rest)) : W p l e R s m args below meth c H locs cells slots Q (F0 m pc ls (v :: .null :: rest)) := by
  obtain ⟨hS, hfc, kC, hkC, -⟩ := hK.1 ci _ hc
  obtain ⟨cf, kf, fi, f, hi, -⟩ := hS k hk
  have hlay := hts _ (hin _ (u_in_lay hk))
  unfold u_lay at hlay
  rw [if_neg (by rw [hfin]; decide)] at hlay
  obtain ⟨c9, k9, cf9, kf9, fi9, f9, -, -, hi9, hst9, hnf9, -⟩ := Cond.lays_spec hlay
  cases hi.symm.trans hi9
  intro U hU X
  obtain ⟨vm', X1, st1⟩ := X.putfieldNullNest hexec hown hlink (hsame _ hi) hst9 hnf9 (g := F0 m pc ls (v :: .null :: rest)) rfl (v := v) (rest := rest) rfl (by rw [hb]; exact hdg)
  obtain ⟨t, st, q⟩ := kk (U.setVm vm') hU X1
  exact ⟨t, st1 t st, q⟩
theorem vx_athrowN (hexec : p.tables.exec = Jvm.exec) (hb : c.code = cc) (hdg : decode cc pc = .ok (.athrow, 1)) (k : vx_NoteN p l e R s m args below meth c H locs cells slots Q (F0 m pc ls rest)) : W p l e R s m args below meth c H locs cells slots Q (F0 m pc ls (.null :: rest)) := by
  intro T hT X
  obtain ⟨t, st, q⟩ := k T hT X
  exact ⟨t, X.athrowNull hexec (g := F0 m pc ls (.null :: rest)) rfl (rest := rest) rfl (by rw [hb]; exact hdg) t st, q⟩
end VXM2
/-! ===== END ===== -/
end
section
def RX0 : String := "CourierWar$Couriers"
def TX0 : u_T := fun k => match k with
  | 0 => ("CourierWar$Couriers", "paths", "LCourierWar$Paths;", true)
  | _ => ("CourierWar$Couriers", "sums", "[I", true)
def tyX0 : Nat → FieldType := fun k => match k with
  | 0 => .object "CourierWar$Paths"
  | _ => .array .int
abbrev wsX00 : List Cond := u_ws RX0 TX0 2
theorem nmX0 : ∀ a, a < 2 → ∀ b, b < 2 → a ≠ b → (TX0 a).2.1 ≠ (TX0 b).2.1 := by decide +kernel
theorem tyX0_ok : ∀ k, k < 2 → parseFieldDescriptor (TX0 k).2.2.1 = some (tyX0 k) := by decide +kernel
abbrev cX0_init : ByteArray := prog_2_method_1_code
def yX0_init : MethodName := ⟨RX0, "<init>", "()V"⟩
abbrev cX0_stepsBetween : ByteArray := prog_2_method_2_code
def yX0_stepsBetween : MethodName := ⟨RX0, "stepsBetween", "(LCourierWar$Terrain;II)I"⟩
abbrev cX0_turnsTo : ByteArray := prog_2_method_3_code
def yX0_turnsTo : MethodName := ⟨RX0, "turnsTo", "(LCourierWar$War;I)I"⟩
abbrev cX0_refusal : ByteArray := prog_2_method_4_code
def yX0_refusal : MethodName := ⟨RX0, "refusal", "(LCourierWar$War;I)I"⟩
abbrev cX0_ridingTurns : ByteArray := prog_2_method_7_code
def yX0_ridingTurns : MethodName := ⟨RX0, "ridingTurns", "(I)I"⟩
def RX1 : String := "CourierWar$History"
def TX1 : u_T := fun k => match k with
  | 0 => ("CourierWar$History", "saved", "[LCourierWar$War;", true)
  | _ => ("CourierWar$History", "size", "I", false)
def tyX1 : Nat → FieldType := fun k => match k with
  | 0 => .array (.object "CourierWar$War")
  | _ => .int
abbrev wsX10 : List Cond := u_ws RX1 TX1 2
theorem nmX1 : ∀ a, a < 2 → ∀ b, b < 2 → a ≠ b → (TX1 a).2.1 ≠ (TX1 b).2.1 := by decide +kernel
theorem tyX1_ok : ∀ k, k < 2 → parseFieldDescriptor (TX1 k).2.2.1 = some (tyX1 k) := by decide +kernel
abbrev cX1_init : ByteArray := prog_3_method_1_code
def yX1_init : MethodName := ⟨RX1, "<init>", "()V"⟩
abbrev cX1_save : ByteArray := prog_3_method_2_code
def yX1_save : MethodName := ⟨RX1, "save", "(LCourierWar$War;)V"⟩
abbrev cX1_dropOldest : ByteArray := prog_3_method_4_code
def yX1_dropOldest : MethodName := ⟨RX1, "dropOldest", "()V"⟩
def RX2 : String := "CourierWar$Marshal"
def TX2 : u_T := fun k => match k with
  | _ => ("CourierWar$Marshal", "paths", "LCourierWar$Paths;", true)
def tyX2 : Nat → FieldType := fun k => match k with
  | _ => .object "CourierWar$Paths"
abbrev wsX20 : List Cond := u_ws RX2 TX2 1
theorem nmX2 : ∀ a, a < 1 → ∀ b, b < 1 → a ≠ b → (TX2 a).2.1 ≠ (TX2 b).2.1 := by decide +kernel
theorem tyX2_ok : ∀ k, k < 1 → parseFieldDescriptor (TX2 k).2.2.1 = some (tyX2 k) := by decide +kernel
abbrev cX2_init : ByteArray := prog_4_method_1_code
def yX2_init : MethodName := ⟨RX2, "<init>", "()V"⟩
abbrev cX2_play : ByteArray := prog_4_method_2_code
def yX2_play : MethodName := ⟨RX2, "play", "(LCourierWar$War;I)V"⟩
abbrev cX2_bringOrders : ByteArray := prog_4_method_3_code
def yX2_bringOrders : MethodName := ⟨RX2, "bringOrders", "(LCourierWar$War;)V"⟩
abbrev cX2_march : ByteArray := prog_4_method_4_code
def yX2_march : MethodName := ⟨RX2, "march", "(LCourierWar$War;)V"⟩
abbrev cX2_stepToGoal : ByteArray := prog_4_method_5_code
def yX2_stepToGoal : MethodName := ⟨RX2, "stepToGoal", "(LCourierWar$War;I)V"⟩
abbrev cX2_stepBack : ByteArray := prog_4_method_6_code
def yX2_stepBack : MethodName := ⟨RX2, "stepBack", "(LCourierWar$War;LCourierWar$Troop;)V"⟩
abbrev cX2_fight : ByteArray := prog_4_method_7_code
def yX2_fight : MethodName := ⟨RX2, "fight", "(LCourierWar$War;)V"⟩
abbrev cX2_lossOf : ByteArray := prog_4_method_8_code
def yX2_lossOf : MethodName := ⟨RX2, "lossOf", "(LCourierWar$War;LCourierWar$Troop;)I"⟩
abbrev cX2_steadyOrRout : ByteArray := prog_4_method_9_code
def yX2_steadyOrRout : MethodName := ⟨RX2, "steadyOrRout", "(LCourierWar$War;LCourierWar$Troop;)V"⟩
abbrev cX2_seesEnemy : ByteArray := prog_4_method_10_code
def yX2_seesEnemy : MethodName := ⟨RX2, "seesEnemy", "(LCourierWar$War;LCourierWar$Troop;)Z"⟩
def RX3 : String := "CourierWar$Order"
def TX3 : u_T := fun k => match k with
  | 0 => ("CourierWar$Order", "number", "I", false)
  | 1 => ("CourierWar$Order", "troop", "I", false)
  | 2 => ("CourierWar$Order", "goal", "I", false)
  | _ => ("CourierWar$Order", "due", "I", false)
def tyX3 : Nat → FieldType := fun k => match k with
  | 0 => .int
  | 1 => .int
  | 2 => .int
  | _ => .int
abbrev wsX30 : List Cond := u_ws RX3 TX3 4
theorem nmX3 : ∀ a, a < 4 → ∀ b, b < 4 → a ≠ b → (TX3 a).2.1 ≠ (TX3 b).2.1 := by decide +kernel
theorem tyX3_ok : ∀ k, k < 4 → parseFieldDescriptor (TX3 k).2.2.1 = some (tyX3 k) := by decide +kernel
abbrev cX3_init : ByteArray := prog_5_method_1_code
def yX3_init : MethodName := ⟨RX3, "<init>", "()V"⟩
abbrev cX3_write : ByteArray := prog_5_method_2_code
def yX3_write : MethodName := ⟨RX3, "write", "(IIII)V"⟩
abbrev cX3_copyFrom : ByteArray := prog_5_method_3_code
def yX3_copyFrom : MethodName := ⟨RX3, "copyFrom", "(LCourierWar$Order;)V"⟩
abbrev cX3_figure : ByteArray := prog_5_method_4_code
def yX3_figure : MethodName := ⟨RX3, "figure", "(I)I"⟩
def RX4 : String := "CourierWar$Paths"
def TX4 : u_T := fun k => match k with
  | 0 => ("CourierWar$Paths", "steps", "[I", true)
  | 1 => ("CourierWar$Paths", "queue", "[I", true)
  | _ => ("CourierWar$Paths", "taken", "[I", true)
def tyX4 : Nat → FieldType := fun k => match k with
  | 0 => .array .int
  | 1 => .array .int
  | _ => .array .int
abbrev wsX40 : List Cond := u_ws RX4 TX4 3
theorem nmX4 : ∀ a, a < 3 → ∀ b, b < 3 → a ≠ b → (TX4 a).2.1 ≠ (TX4 b).2.1 := by decide +kernel
theorem tyX4_ok : ∀ k, k < 3 → parseFieldDescriptor (TX4 k).2.2.1 = some (tyX4 k) := by decide +kernel
abbrev cX4_init : ByteArray := prog_6_method_1_code
def yX4_init : MethodName := ⟨RX4, "<init>", "()V"⟩
abbrev cX4_openAll : ByteArray := prog_6_method_2_code
def yX4_openAll : MethodName := ⟨RX4, "openAll", "()V"⟩
abbrev cX4_spread : ByteArray := prog_6_method_3_code
def yX4_spread : MethodName := ⟨RX4, "spread", "(LCourierWar$Terrain;II)V"⟩
abbrev cX4_isOpen : ByteArray := prog_6_method_4_code
def yX4_isOpen : MethodName := ⟨RX4, "isOpen", "(I)Z"⟩
abbrev cX4_freeStepNearer : ByteArray := prog_6_method_5_code
def yX4_freeStepNearer : MethodName := ⟨RX4, "freeStepNearer", "(LCourierWar$Terrain;I)I"⟩
def RX5 : String := "CourierWar$Terrain"
def TX5 : u_T := fun k => match k with
  | _ => ("CourierWar$Terrain", "heights", "[I", true)
def tyX5 : Nat → FieldType := fun k => match k with
  | _ => .array .int
abbrev wsX50 : List Cond := u_ws RX5 TX5 1
theorem nmX5 : ∀ a, a < 1 → ∀ b, b < 1 → a ≠ b → (TX5 a).2.1 ≠ (TX5 b).2.1 := by decide +kernel
theorem tyX5_ok : ∀ k, k < 1 → parseFieldDescriptor (TX5 k).2.2.1 = some (tyX5 k) := by decide +kernel
abbrev cX5_init : ByteArray := prog_7_method_1_code
def yX5_init : MethodName := ⟨RX5, "<init>", "()V"⟩
abbrev cX5_copyFrom : ByteArray := prog_7_method_2_code
def yX5_copyFrom : MethodName := ⟨RX5, "copyFrom", "(LCourierWar$Terrain;)V"⟩
abbrev cX5_level : ByteArray := prog_7_method_3_code
def yX5_level : MethodName := ⟨RX5, "level", "(III)I"⟩
abbrev cX5_canStep : ByteArray := prog_7_method_4_code
def yX5_canStep : MethodName := ⟨RX5, "canStep", "(II)Z"⟩
abbrev cX5_exits : ByteArray := prog_7_method_5_code
def yX5_exits : MethodName := ⟨RX5, "exits", "(I)I"⟩
abbrev cX5_inSight : ByteArray := prog_7_method_6_code
def yX5_inSight : MethodName := ⟨RX5, "inSight", "(II)Z"⟩
abbrev cX5_between : ByteArray := prog_7_method_7_code
def yX5_between : MethodName := ⟨RX5, "between", "(IIII)I"⟩
abbrev cX5_cellsInSight : ByteArray := prog_7_method_8_code
def yX5_cellsInSight : MethodName := ⟨RX5, "cellsInSight", "(I)I"⟩
def RX6 : String := "CourierWar$Text"
def TX6 : u_T := fun k => match k with
  | 0 => ("CourierWar$Text", "codes", "[I", true)
  | 1 => ("CourierWar$Text", "length", "I", false)
  | 2 => ("CourierWar$Text", "troops", "[I", true)
  | _ => ("CourierWar$Text", "goals", "[I", true)
def tyX6 : Nat → FieldType := fun k => match k with
  | 0 => .array .int
  | 1 => .int
  | 2 => .array .int
  | _ => .array .int
abbrev wsX60 : List Cond := u_ws RX6 TX6 4
theorem nmX6 : ∀ a, a < 4 → ∀ b, b < 4 → a ≠ b → (TX6 a).2.1 ≠ (TX6 b).2.1 := by decide +kernel
theorem tyX6_ok : ∀ k, k < 4 → parseFieldDescriptor (TX6 k).2.2.1 = some (tyX6 k) := by decide +kernel
abbrev cX6_init : ByteArray := prog_8_method_1_code
def yX6_init : MethodName := ⟨RX6, "<init>", "()V"⟩
def RX7 : String := "CourierWar$Troop"
def TX7 : u_T := fun k => match k with
  | 0 => ("CourierWar$Troop", "side", "I", false)
  | 1 => ("CourierWar$Troop", "cell", "I", false)
  | 2 => ("CourierWar$Troop", "strength", "I", false)
  | 3 => ("CourierWar$Troop", "goal", "I", false)
  | 4 => ("CourierWar$Troop", "condition", "I", false)
  | 5 => ("CourierWar$Troop", "strengthAtFirst", "I", false)
  | 6 => ("CourierWar$Troop", "lostInTurn", "I", false)
  | _ => ("CourierWar$Troop", "ordersCome", "I", false)
def tyX7 : Nat → FieldType := fun k => match k with
  | 0 => .int
  | 1 => .int
  | 2 => .int
  | 3 => .int
  | 4 => .int
  | 5 => .int
  | 6 => .int
  | _ => .int
abbrev wsX70 : List Cond := u_ws RX7 TX7 8
theorem nmX7 : ∀ a, a < 8 → ∀ b, b < 8 → a ≠ b → (TX7 a).2.1 ≠ (TX7 b).2.1 := by decide +kernel
theorem tyX7_ok : ∀ k, k < 8 → parseFieldDescriptor (TX7 k).2.2.1 = some (tyX7 k) := by decide +kernel
abbrev cX7_init : ByteArray := prog_9_method_1_code
def yX7_init : MethodName := ⟨RX7, "<init>", "()V"⟩
abbrev cX7_muster : ByteArray := prog_9_method_2_code
def yX7_muster : MethodName := ⟨RX7, "muster", "(III)V"⟩
abbrev cX7_copyFrom : ByteArray := prog_9_method_3_code
def yX7_copyFrom : MethodName := ⟨RX7, "copyFrom", "(LCourierWar$Troop;)V"⟩
abbrev cX7_isEnemyOf : ByteArray := prog_9_method_4_code
def yX7_isEnemyOf : MethodName := ⟨RX7, "isEnemyOf", "(LCourierWar$Troop;)Z"⟩
def RX8 : String := "CourierWar$War"
def TX8 : u_T := fun k => match k with
  | 0 => ("CourierWar$War", "terrain", "LCourierWar$Terrain;", true)
  | 1 => ("CourierWar$War", "generals", "[I", true)
  | 2 => ("CourierWar$War", "troops", "[LCourierWar$Troop;", true)
  | 3 => ("CourierWar$War", "troopCount", "I", false)
  | 4 => ("CourierWar$War", "orders", "[LCourierWar$Order;", true)
  | 5 => ("CourierWar$War", "orderCount", "I", false)
  | 6 => ("CourierWar$War", "turn", "I", false)
  | 7 => ("CourierWar$War", "ordersGiven", "I", false)
  | 8 => ("CourierWar$War", "ordersLost", "I", false)
  | _ => ("CourierWar$War", "lostBySide", "[I", true)
def tyX8 : Nat → FieldType := fun k => match k with
  | 0 => .object "CourierWar$Terrain"
  | 1 => .array .int
  | 2 => .array (.object "CourierWar$Troop")
  | 3 => .int
  | 4 => .array (.object "CourierWar$Order")
  | 5 => .int
  | 6 => .int
  | 7 => .int
  | 8 => .int
  | _ => .array .int
abbrev wsX80 : List Cond := u_ws RX8 TX8 10
theorem nmX8 : ∀ a, a < 10 → ∀ b, b < 10 → a ≠ b → (TX8 a).2.1 ≠ (TX8 b).2.1 := by decide +kernel
theorem tyX8_ok : ∀ k, k < 10 → parseFieldDescriptor (TX8 k).2.2.1 = some (tyX8 k) := by decide +kernel
abbrev cX8_init : ByteArray := prog_10_method_1_code
def yX8_init : MethodName := ⟨RX8, "<init>", "()V"⟩
abbrev cX8_copyFrom : ByteArray := prog_10_method_2_code
def yX8_copyFrom : MethodName := ⟨RX8, "copyFrom", "(LCourierWar$War;)V"⟩
abbrev cX8_recruit : ByteArray := prog_10_method_3_code
def yX8_recruit : MethodName := ⟨RX8, "recruit", "(III)I"⟩
abbrev cX8_enqueue : ByteArray := prog_10_method_4_code
def yX8_enqueue : MethodName := ⟨RX8, "enqueue", "(III)V"⟩
abbrev cX8_dropFirstOrders : ByteArray := prog_10_method_5_code
def yX8_dropFirstOrders : MethodName := ⟨RX8, "dropFirstOrders", "(I)V"⟩
abbrev cX8_troopIn : ByteArray := prog_10_method_6_code
def yX8_troopIn : MethodName := ⟨RX8, "troopIn", "(I)I"⟩
abbrev cX8_cellFigure : ByteArray := prog_10_method_7_code
def yX8_cellFigure : MethodName := ⟨RX8, "cellFigure", "(II)I"⟩
abbrev cX8_troopFigure : ByteArray := prog_10_method_8_code
def yX8_troopFigure : MethodName := ⟨RX8, "troopFigure", "(II)I"⟩
abbrev cX8_figure : ByteArray := prog_10_method_9_code
def yX8_figure : MethodName := ⟨RX8, "figure", "(I)I"⟩
abbrev cX8_lostByBoth : ByteArray := prog_10_method_10_code
def yX8_lostByBoth : MethodName := ⟨RX8, "lostByBoth", "()I"⟩
abbrev cX8_shareLeft : ByteArray := prog_10_method_11_code
def yX8_shareLeft : MethodName := ⟨RX8, "shareLeft", "()D"⟩
abbrev cX8_ordersFor : ByteArray := prog_10_method_12_code
def yX8_ordersFor : MethodName := ⟨RX8, "ordersFor", "(I)I"⟩
abbrev cX8_troopsThatAre : ByteArray := prog_10_method_13_code
def yX8_troopsThatAre : MethodName := ⟨RX8, "troopsThatAre", "(I)I"⟩
abbrev cX8_strengthOf : ByteArray := prog_10_method_14_code
def yX8_strengthOf : MethodName := ⟨RX8, "strengthOf", "(I)I"⟩
def RX9 : String := "CourierWar"
def TX9 : u_T := fun k => match k with
  | 0 => ("CourierWar", "war", "LCourierWar$War;", true)
  | 1 => ("CourierWar", "trial", "LCourierWar$War;", true)
  | 2 => ("CourierWar", "history", "LCourierWar$History;", true)
  | 3 => ("CourierWar", "text", "LCourierWar$Text;", true)
  | 4 => ("CourierWar", "couriers", "LCourierWar$Couriers;", true)
  | _ => ("CourierWar", "marshal", "LCourierWar$Marshal;", true)
def tyX9 : Nat → FieldType := fun k => match k with
  | 0 => .object "CourierWar$War"
  | 1 => .object "CourierWar$War"
  | 2 => .object "CourierWar$History"
  | 3 => .object "CourierWar$Text"
  | 4 => .object "CourierWar$Couriers"
  | _ => .object "CourierWar$Marshal"
abbrev wsX90 : List Cond := u_ws RX9 TX9 6
theorem nmX9 : ∀ a, a < 6 → ∀ b, b < 6 → a ≠ b → (TX9 a).2.1 ≠ (TX9 b).2.1 := by decide +kernel
theorem tyX9_ok : ∀ k, k < 6 → parseFieldDescriptor (TX9 k).2.2.1 = some (tyX9 k) := by decide +kernel
abbrev cX9_init : ByteArray := prog_1_method_1_code
def yX9_init : MethodName := ⟨RX9, "<init>", "()V"⟩
abbrev cX9_shape : ByteArray := prog_1_method_2_code
def yX9_shape : MethodName := ⟨RX9, "shape", "(III)I"⟩
abbrev cX9_moveGeneral : ByteArray := prog_1_method_3_code
def yX9_moveGeneral : MethodName := ⟨RX9, "moveGeneral", "(II)I"⟩
abbrev cX9_addTroop : ByteArray := prog_1_method_4_code
def yX9_addTroop : MethodName := ⟨RX9, "addTroop", "(III)I"⟩
abbrev cX9_order : ByteArray := prog_1_method_5_code
def yX9_order : MethodName := ⟨RX9, "order", "(II)I"⟩
abbrev cX9_pass : ByteArray := prog_1_method_6_code
def yX9_pass : MethodName := ⟨RX9, "pass", "(I)I"⟩
abbrev cX9_cell : ByteArray := prog_1_method_12_code
def yX9_cell : MethodName := ⟨RX9, "cell", "(II)I"⟩
abbrev cX9_troop : ByteArray := prog_1_method_13_code
def yX9_troop : MethodName := ⟨RX9, "troop", "(II)I"⟩
abbrev cX9_underWay : ByteArray := prog_1_method_14_code
def yX9_underWay : MethodName := ⟨RX9, "underWay", "(II)I"⟩
abbrev cX9_count : ByteArray := prog_1_method_15_code
def yX9_count : MethodName := ⟨RX9, "count", "(I)I"⟩
abbrev cX9_sees : ByteArray := prog_1_method_16_code
def yX9_sees : MethodName := ⟨RX9, "sees", "(II)Z"⟩
abbrev cX9_distance : ByteArray := prog_1_method_17_code
def yX9_distance : MethodName := ⟨RX9, "distance", "(II)I"⟩
abbrev cX9_why : ByteArray := prog_1_method_18_code
def yX9_why : MethodName := ⟨RX9, "why", "(I)I"⟩
abbrev cX9_ifPassed : ByteArray := prog_1_method_20_code
def yX9_ifPassed : MethodName := ⟨RX9, "ifPassed", "(II)I"⟩
abbrev cX9_arrivesIn : ByteArray := prog_1_method_21_code
def yX9_arrivesIn : MethodName := ⟨RX9, "arrivesIn", "(I)I"⟩
abbrev cX9_strengthLeft : ByteArray := prog_1_method_22_code
def yX9_strengthLeft : MethodName := ⟨RX9, "strengthLeft", "()D"⟩
abbrev cX9_needCell : ByteArray := prog_1_method_24_code
def yX9_needCell : MethodName := ⟨RX9, "needCell", "(I)V"⟩
abbrev cX9_needSide : ByteArray := prog_1_method_25_code
def yX9_needSide : MethodName := ⟨RX9, "needSide", "(I)V"⟩
abbrev cX9_needTroop : ByteArray := prog_1_method_26_code
def yX9_needTroop : MethodName := ⟨RX9, "needTroop", "(I)V"⟩
abbrev cX9_needFigure : ByteArray := prog_1_method_27_code
def yX9_needFigure : MethodName := ⟨RX9, "needFigure", "(II)V"⟩
abbrev cX9_needTurns : ByteArray := prog_1_method_28_code
def yX9_needTurns : MethodName := ⟨RX9, "needTurns", "(I)V"⟩
abbrev cX9_sendOrder : ByteArray := prog_1_method_30_code
def yX9_sendOrder : MethodName := ⟨RX9, "sendOrder", "(II)I"⟩
abbrev cX9_countNow : ByteArray := prog_1_method_31_code
def yX9_countNow : MethodName := ⟨RX9, "countNow", "(I)I"⟩
abbrev cX9_neighbour : ByteArray := prog_1_method_40_code
def yX9_neighbour : MethodName := ⟨RX9, "neighbour", "(II)I"⟩
def RJx145de : String := "java/io/Serializable"
def RJ9 : String := "java/lang/Math"
abbrev cJ9_abs_0f7a4 : ByteArray := prog_17_method_59_code
def yJ9_abs_0f7a4 : MethodName := ⟨RJ9, "abs", "(I)I"⟩
abbrev cJ9_max_7cf53 : ByteArray := prog_17_method_65_code
def yJ9_max_7cf53 : MethodName := ⟨RJ9, "max", "(II)I"⟩
abbrev cJ9_min_7cf53 : ByteArray := prog_17_method_69_code
def yJ9_min_7cf53 : MethodName := ⟨RJ9, "min", "(II)I"⟩
def RJ0 : String := "java/lang/String"
def RJ10 : String := "java/lang/System"
def RJ7 : String := "java/util/Arrays"
abbrev cJ7_fill_53178 : ByteArray := prog_22_method_103_code
def yJ7_fill_53178 : MethodName := ⟨RJ7, "fill", "([II)V"⟩
def RL : String := "CourierWarLaw"
abbrev cL_cell : ByteArray := method_2_code
def yL_cell : MethodName := ⟨RL, "cell", "([II)I"⟩
abbrev cL_at : ByteArray := method_3_code
def yL_at : MethodName := ⟨RL, "at", "(II)I"⟩
abbrev cL_big : ByteArray := method_4_code
def yL_big : MethodName := ⟨RL, "big", "(I)I"⟩
abbrev cL_abs : ByteArray := method_5_code
def yL_abs : MethodName := ⟨RL, "abs", "(I)I"⟩
abbrev cL_beside : ByteArray := method_6_code
def yL_beside : MethodName := ⟨RL, "beside", "(II)I"⟩
abbrev cL_step : ByteArray := method_7_code
def yL_step : MethodName := ⟨RL, "step", "(II[I)I"⟩
abbrev cL_who : ByteArray := method_8_code
def yL_who : MethodName := ⟨RL, "who", "(I[I[I)I"⟩
abbrev cL_floor : ByteArray := method_9_code
def yL_floor : MethodName := ⟨RL, "floor", "(II)I"⟩
abbrev cL_sees : ByteArray := method_10_code
def yL_sees : MethodName := ⟨RL, "sees", "(II[I)Z"⟩
abbrev cL_spread : ByteArray := method_11_code
def yL_spread : MethodName := ⟨RL, "spread", "(II[I[I[I[I)V"⟩
abbrev cL_time : ByteArray := method_12_code
def yL_time : MethodName := ⟨RL, "time", "(II[I[I[I)I"⟩
abbrev cL_why : ByteArray := method_13_code
def yL_why : MethodName := ⟨RL, "why", "(I[I[I[I)I"⟩
abbrev cL_turn : ByteArray := method_14_code
def yL_turn : MethodName := ⟨RL, "turn", "([I[I[I[I)V"⟩
abbrev cL_counted : ByteArray := method_15_code
def yL_counted : MethodName := ⟨RL, "counted", "(I[I[I)I"⟩
abbrev cL_told : ByteArray := method_16_code
def yL_told : MethodName := ⟨RL, "told", "(LCourierWar;II[I[I[I[I)Z"⟩
abbrev cL_ahead : ByteArray := method_17_code
def yL_ahead : MethodName := ⟨RL, "ahead", "(LCourierWar;II[I[I[I[I)Z"⟩
abbrev cL_act : ByteArray := method_18_code
def yL_act : MethodName := ⟨RL, "act", "(LCourierWar;III[I[I[I[I)Z"⟩
abbrev cL_law : ByteArray := code
def yL_law : MethodName := ⟨RL, "law", "([I)Z"⟩
abbrev vwCl : List vw_C := [(RX0, TX0, 2), (RX1, TX1, 2), (RX2, TX2, 1), (RX3, TX3, 4), (RX4, TX4, 3), (RX5, TX5, 1), (RX6, TX6, 4), (RX7, TX7, 8), (RX8, TX8, 10), (RX9, TX9, 6)]
end
section
theorem tw_0 : (Cond.selects "java/lang/Throwable" ⟨"java/lang/Throwable", "fillInStackTrace", "(I)Ljava/lang/Throwable;"⟩ ⟨"java/lang/Throwable", "fillInStackTrace", "(I)Ljava/lang/Throwable;"⟩) ∈ lw_tbl := List.mem_of_getElem? (i := 0) (by decide +kernel)
theorem tw_1 : (Cond.selects "CourierWar$History" ⟨"CourierWar$History", "dropOldest", "()V"⟩ ⟨"CourierWar$History", "dropOldest", "()V"⟩) ∈ lw_tbl := List.mem_of_getElem? (i := 1) (by decide +kernel)
theorem tw_2 : (Cond.selects "CourierWar" ⟨"CourierWar", "countNow", "(I)I"⟩ ⟨"CourierWar", "countNow", "(I)I"⟩) ∈ lw_tbl := List.mem_of_getElem? (i := 2) (by decide +kernel)
theorem tw_3 : (Cond.selects "CourierWar$War" ⟨"CourierWar$War", "troopsThatAre", "(I)I"⟩ ⟨"CourierWar$War", "troopsThatAre", "(I)I"⟩) ∈ lw_tbl := List.mem_of_getElem? (i := 3) (by decide +kernel)
theorem tw_4 : (Cond.selects "CourierWar$War" ⟨"CourierWar$War", "strengthOf", "(I)I"⟩ ⟨"CourierWar$War", "strengthOf", "(I)I"⟩) ∈ lw_tbl := List.mem_of_getElem? (i := 4) (by decide +kernel)
theorem tw_5 : (Cond.selects "CourierWar" ⟨"CourierWar", "needTroop", "(I)V"⟩ ⟨"CourierWar", "needTroop", "(I)V"⟩) ∈ lw_tbl := List.mem_of_getElem? (i := 5) (by decide +kernel)
theorem tw_6 : (Cond.selects "CourierWar$War" ⟨"CourierWar$War", "ordersFor", "(I)I"⟩ ⟨"CourierWar$War", "ordersFor", "(I)I"⟩) ∈ lw_tbl := List.mem_of_getElem? (i := 6) (by decide +kernel)
theorem tw_7 : (Cond.selects "CourierWar$Paths" ⟨"CourierWar$Paths", "isOpen", "(I)Z"⟩ ⟨"CourierWar$Paths", "isOpen", "(I)Z"⟩) ∈ lw_tbl := List.mem_of_getElem? (i := 7) (by decide +kernel)
theorem tw_8 : (Cond.selects "CourierWar$Marshal" ⟨"CourierWar$Marshal", "march", "(LCourierWar$War;)V"⟩ ⟨"CourierWar$Marshal", "march", "(LCourierWar$War;)V"⟩) ∈ lw_tbl := List.mem_of_getElem? (i := 8) (by decide +kernel)
theorem tw_9 : (Cond.selects "CourierWar$Marshal" ⟨"CourierWar$Marshal", "stepToGoal", "(LCourierWar$War;I)V"⟩ ⟨"CourierWar$Marshal", "stepToGoal", "(LCourierWar$War;I)V"⟩) ∈ lw_tbl := List.mem_of_getElem? (i := 9) (by decide +kernel)
theorem tw_10 : (Cond.selects "CourierWar" ⟨"CourierWar", "sendOrder", "(II)I"⟩ ⟨"CourierWar", "sendOrder", "(II)I"⟩) ∈ lw_tbl := List.mem_of_getElem? (i := 10) (by decide +kernel)
theorem tw_11 : (Cond.initialized "CourierWarLaw") ∈ lw_tbl := List.mem_of_getElem? (i := 11) (by decide +kernel)
theorem tw_12 : (Cond.initialized "CourierWar") ∈ lw_tbl := List.mem_of_getElem? (i := 12) (by decide +kernel)
theorem tw_13 : (Cond.initialized "CourierWar$War") ∈ lw_tbl := List.mem_of_getElem? (i := 13) (by decide +kernel)
theorem tw_14 : (Cond.initialized "CourierWar$Terrain") ∈ lw_tbl := List.mem_of_getElem? (i := 14) (by decide +kernel)
theorem tw_15 : (Cond.initialized "CourierWar$Troop") ∈ lw_tbl := List.mem_of_getElem? (i := 15) (by decide +kernel)
theorem tw_16 : (Cond.initialized "CourierWar$Order") ∈ lw_tbl := List.mem_of_getElem? (i := 16) (by decide +kernel)
theorem tw_17 : (Cond.initialized "CourierWar$History") ∈ lw_tbl := List.mem_of_getElem? (i := 17) (by decide +kernel)
theorem tw_18 : (Cond.initialized "CourierWar$Text") ∈ lw_tbl := List.mem_of_getElem? (i := 18) (by decide +kernel)
theorem tw_19 : (Cond.initialized "CourierWar$Couriers") ∈ lw_tbl := List.mem_of_getElem? (i := 19) (by decide +kernel)
theorem tw_20 : (Cond.initialized "CourierWar$Paths") ∈ lw_tbl := List.mem_of_getElem? (i := 20) (by decide +kernel)
theorem tw_21 : (Cond.initialized "CourierWar$Marshal") ∈ lw_tbl := List.mem_of_getElem? (i := 21) (by decide +kernel)
theorem tw_22 : (Cond.initialized "java/lang/Throwable") ∈ lw_tbl := List.mem_of_getElem? (i := 22) (by decide +kernel)
theorem tw_23 : (Cond.initialized "java/lang/Exception") ∈ lw_tbl := List.mem_of_getElem? (i := 23) (by decide +kernel)
theorem tw_24 : (Cond.initialized "java/lang/RuntimeException") ∈ lw_tbl := List.mem_of_getElem? (i := 24) (by decide +kernel)
theorem tw_25 : (Cond.initialized "java/lang/IndexOutOfBoundsException") ∈ lw_tbl := List.mem_of_getElem? (i := 25) (by decide +kernel)
theorem tw_26 : (Cond.initialized "java/lang/IllegalArgumentException") ∈ lw_tbl := List.mem_of_getElem? (i := 26) (by decide +kernel)
theorem tw_27 : (Cond.initialized "java/lang/System") ∈ lw_tbl := List.mem_of_getElem? (i := 27) (by decide +kernel)
theorem tw_28 : (Cond.initialized "java/lang/Math") ∈ lw_tbl := List.mem_of_getElem? (i := 28) (by decide +kernel)
theorem tw_29 : (Cond.initialized "java/util/Arrays") ∈ lw_tbl := List.mem_of_getElem? (i := 29) (by decide +kernel)
theorem tw_30 : (Cond.initialized "java/lang/IllegalStateException") ∈ lw_tbl := List.mem_of_getElem? (i := 30) (by decide +kernel)
theorem tw_31 : (Cond.classLink "CourierWarLaw" 42 "CourierWar") ∈ lw_tbl := List.mem_of_getElem? (i := 31) (by decide +kernel)
theorem tw_32 : (Cond.instantiable "CourierWar" 6) ∈ lw_tbl := List.mem_of_getElem? (i := 32) (by decide +kernel)
theorem tw_33 : (Cond.methodLink "CourierWarLaw" 106 ⟨"CourierWar", "<init>", "()V"⟩) ∈ lw_tbl := List.mem_of_getElem? (i := 33) (by decide +kernel)
theorem tw_34 : (Cond.instanceMethod ⟨"CourierWar", "<init>", "()V"⟩) ∈ lw_tbl := List.mem_of_getElem? (i := 34) (by decide +kernel)
theorem tw_35 : (Cond.code ⟨"CourierWar", "<init>", "()V"⟩ prog_1_method_1_code 1 none) ∈ lw_tbl := List.mem_of_getElem? (i := 35) (by decide +kernel)
theorem tw_36 : (Cond.methodLink "CourierWar" 3 ⟨"java/lang/Object", "<init>", "()V"⟩) ∈ lw_tbl := List.mem_of_getElem? (i := 36) (by decide +kernel)
theorem tw_37 : (Cond.instanceMethod ⟨"java/lang/Object", "<init>", "()V"⟩) ∈ lw_tbl := List.mem_of_getElem? (i := 37) (by decide +kernel)
theorem tw_38 : (Cond.code ⟨"java/lang/Object", "<init>", "()V"⟩ object_method_1_code 1 none) ∈ lw_tbl := List.mem_of_getElem? (i := 38) (by decide +kernel)
theorem tw_39 : (Cond.classLink "CourierWar" 9 "CourierWar$War") ∈ lw_tbl := List.mem_of_getElem? (i := 39) (by decide +kernel)
theorem tw_40 : (Cond.instantiable "CourierWar$War" 10) ∈ lw_tbl := List.mem_of_getElem? (i := 40) (by decide +kernel)
theorem tw_41 : (Cond.methodLink "CourierWar" 11 ⟨"CourierWar$War", "<init>", "()V"⟩) ∈ lw_tbl := List.mem_of_getElem? (i := 41) (by decide +kernel)
theorem tw_42 : (Cond.instanceMethod ⟨"CourierWar$War", "<init>", "()V"⟩) ∈ lw_tbl := List.mem_of_getElem? (i := 42) (by decide +kernel)
theorem tw_43 : (Cond.code ⟨"CourierWar$War", "<init>", "()V"⟩ prog_10_method_1_code 2 none) ∈ lw_tbl := List.mem_of_getElem? (i := 43) (by decide +kernel)
theorem tw_44 : (Cond.methodLink "CourierWar$War" 3 ⟨"java/lang/Object", "<init>", "()V"⟩) ∈ lw_tbl := List.mem_of_getElem? (i := 44) (by decide +kernel)
theorem tw_45 : (Cond.classLink "CourierWar$War" 9 "CourierWar$Terrain") ∈ lw_tbl := List.mem_of_getElem? (i := 45) (by decide +kernel)
theorem tw_46 : (Cond.instantiable "CourierWar$Terrain" 1) ∈ lw_tbl := List.mem_of_getElem? (i := 46) (by decide +kernel)
theorem tw_47 : (Cond.methodLinkNest "CourierWar$War" 11 ⟨"CourierWar$Terrain", "<init>", "()V"⟩ "CourierWar") ∈ lw_tbl := List.mem_of_getElem? (i := 47) (by decide +kernel)
theorem tw_48 : (Cond.instanceMethod ⟨"CourierWar$Terrain", "<init>", "()V"⟩) ∈ lw_tbl := List.mem_of_getElem? (i := 48) (by decide +kernel)
theorem tw_49 : (Cond.code ⟨"CourierWar$Terrain", "<init>", "()V"⟩ prog_7_method_1_code 1 none) ∈ lw_tbl := List.mem_of_getElem? (i := 49) (by decide +kernel)
theorem tw_50 : (Cond.methodLink "CourierWar$Terrain" 3 ⟨"java/lang/Object", "<init>", "()V"⟩) ∈ lw_tbl := List.mem_of_getElem? (i := 50) (by decide +kernel)
theorem tw_51 : (Cond.fieldLink "CourierWar$Terrain" 9 "CourierWar$Terrain" "heights" "[I") ∈ lw_tbl := List.mem_of_getElem? (i := 51) (by decide +kernel)
theorem tw_52 : (Cond.fieldLink "CourierWar$War" 82 "CourierWar$Terrain" "heights" "[I") ∈ lw_tbl := List.mem_of_getElem? (i := 52) (by decide +kernel)
theorem tw_53 : (Cond.fieldLink "CourierWar$Marshal" 142 "CourierWar$Terrain" "heights" "[I") ∈ lw_tbl := List.mem_of_getElem? (i := 53) (by decide +kernel)
theorem tw_54 : (Cond.laysFinal "CourierWar$Terrain" "CourierWar$Terrain" "heights" "[I") ∈ lw_tbl := List.mem_of_getElem? (i := 54) (by decide +kernel)
theorem tw_57 : (Cond.arrayClass .int) ∈ lw_tbl := List.mem_of_getElem? (i := 57) (by decide +kernel)
theorem tw_58 : (Cond.classLink "CourierWar$War" 22 "CourierWar$Troop") ∈ lw_tbl := List.mem_of_getElem? (i := 58) (by decide +kernel)
theorem tw_59 : (Cond.arrayOver (.object "CourierWar$Troop")) ∈ lw_tbl := List.mem_of_getElem? (i := 59) (by decide +kernel)
theorem tw_60 : (Cond.classLink "CourierWar$War" 28 "CourierWar$Order") ∈ lw_tbl := List.mem_of_getElem? (i := 60) (by decide +kernel)
theorem tw_61 : (Cond.arrayOver (.object "CourierWar$Order")) ∈ lw_tbl := List.mem_of_getElem? (i := 61) (by decide +kernel)
theorem tw_62 : (Cond.instantiable "CourierWar$Troop" 8) ∈ lw_tbl := List.mem_of_getElem? (i := 62) (by decide +kernel)
theorem tw_63 : (Cond.methodLinkNest "CourierWar$War" 37 ⟨"CourierWar$Troop", "<init>", "()V"⟩ "CourierWar") ∈ lw_tbl := List.mem_of_getElem? (i := 63) (by decide +kernel)
theorem tw_64 : (Cond.instanceMethod ⟨"CourierWar$Troop", "<init>", "()V"⟩) ∈ lw_tbl := List.mem_of_getElem? (i := 64) (by decide +kernel)
theorem tw_65 : (Cond.code ⟨"CourierWar$Troop", "<init>", "()V"⟩ prog_9_method_1_code 1 none) ∈ lw_tbl := List.mem_of_getElem? (i := 65) (by decide +kernel)
theorem tw_66 : (Cond.methodLink "CourierWar$Troop" 3 ⟨"java/lang/Object", "<init>", "()V"⟩) ∈ lw_tbl := List.mem_of_getElem? (i := 66) (by decide +kernel)
theorem tw_67 : (Cond.fieldLink "CourierWar$Troop" 9 "CourierWar$Troop" "side" "I") ∈ lw_tbl := List.mem_of_getElem? (i := 67) (by decide +kernel)
theorem tw_68 : (Cond.fieldLink "CourierWar$Couriers" 38 "CourierWar$Troop" "side" "I") ∈ lw_tbl := List.mem_of_getElem? (i := 68) (by decide +kernel)
theorem tw_69 : (Cond.fieldLink "CourierWar$Marshal" 108 "CourierWar$Troop" "side" "I") ∈ lw_tbl := List.mem_of_getElem? (i := 69) (by decide +kernel)
theorem tw_70 : (Cond.fieldLink "CourierWar$War" 95 "CourierWar$Troop" "side" "I") ∈ lw_tbl := List.mem_of_getElem? (i := 70) (by decide +kernel)
theorem tw_71 : (Cond.fieldLink "CourierWar$Troop" 15 "CourierWar$Troop" "cell" "I") ∈ lw_tbl := List.mem_of_getElem? (i := 71) (by decide +kernel)
theorem tw_72 : (Cond.fieldLink "CourierWar$Couriers" 48 "CourierWar$Troop" "cell" "I") ∈ lw_tbl := List.mem_of_getElem? (i := 72) (by decide +kernel)
theorem tw_73 : (Cond.fieldLink "CourierWar$Marshal" 79 "CourierWar$Troop" "cell" "I") ∈ lw_tbl := List.mem_of_getElem? (i := 73) (by decide +kernel)
theorem tw_74 : (Cond.fieldLink "CourierWar$War" 79 "CourierWar$Troop" "cell" "I") ∈ lw_tbl := List.mem_of_getElem? (i := 74) (by decide +kernel)
theorem tw_75 : (Cond.fieldLink "CourierWar" 223 "CourierWar$Troop" "cell" "I") ∈ lw_tbl := List.mem_of_getElem? (i := 75) (by decide +kernel)
theorem tw_76 : (Cond.fieldLink "CourierWar$Troop" 18 "CourierWar$Troop" "strength" "I") ∈ lw_tbl := List.mem_of_getElem? (i := 76) (by decide +kernel)
theorem tw_77 : (Cond.fieldLink "CourierWar$Marshal" 132 "CourierWar$Troop" "strength" "I") ∈ lw_tbl := List.mem_of_getElem? (i := 77) (by decide +kernel)
theorem tw_78 : (Cond.fieldLink "CourierWar$War" 98 "CourierWar$Troop" "strength" "I") ∈ lw_tbl := List.mem_of_getElem? (i := 78) (by decide +kernel)
theorem tw_79 : (Cond.fieldLink "CourierWar$Troop" 21 "CourierWar$Troop" "goal" "I") ∈ lw_tbl := List.mem_of_getElem? (i := 79) (by decide +kernel)
theorem tw_80 : (Cond.fieldLink "CourierWar$Marshal" 68 "CourierWar$Troop" "goal" "I") ∈ lw_tbl := List.mem_of_getElem? (i := 80) (by decide +kernel)
theorem tw_81 : (Cond.fieldLink "CourierWar$War" 101 "CourierWar$Troop" "goal" "I") ∈ lw_tbl := List.mem_of_getElem? (i := 81) (by decide +kernel)
theorem tw_82 : (Cond.fieldLink "CourierWar" 226 "CourierWar$Troop" "goal" "I") ∈ lw_tbl := List.mem_of_getElem? (i := 82) (by decide +kernel)
theorem tw_83 : (Cond.fieldLink "CourierWar$Troop" 24 "CourierWar$Troop" "condition" "I") ∈ lw_tbl := List.mem_of_getElem? (i := 83) (by decide +kernel)
theorem tw_84 : (Cond.fieldLink "CourierWar$Marshal" 60 "CourierWar$Troop" "condition" "I") ∈ lw_tbl := List.mem_of_getElem? (i := 84) (by decide +kernel)
theorem tw_85 : (Cond.fieldLink "CourierWar$Couriers" 65 "CourierWar$Troop" "condition" "I") ∈ lw_tbl := List.mem_of_getElem? (i := 85) (by decide +kernel)
theorem tw_86 : (Cond.fieldLink "CourierWar$War" 76 "CourierWar$Troop" "condition" "I") ∈ lw_tbl := List.mem_of_getElem? (i := 86) (by decide +kernel)
theorem tw_87 : (Cond.fieldLink "CourierWar" 218 "CourierWar$Troop" "condition" "I") ∈ lw_tbl := List.mem_of_getElem? (i := 87) (by decide +kernel)
theorem tw_88 : (Cond.fieldLink "CourierWar$Troop" 27 "CourierWar$Troop" "strengthAtFirst" "I") ∈ lw_tbl := List.mem_of_getElem? (i := 88) (by decide +kernel)
theorem tw_89 : (Cond.fieldLink "CourierWar$War" 104 "CourierWar$Troop" "strengthAtFirst" "I") ∈ lw_tbl := List.mem_of_getElem? (i := 89) (by decide +kernel)
theorem tw_90 : (Cond.fieldLink "CourierWar$Marshal" 150 "CourierWar$Troop" "strengthAtFirst" "I") ∈ lw_tbl := List.mem_of_getElem? (i := 90) (by decide +kernel)
theorem tw_91 : (Cond.fieldLink "CourierWar$Troop" 30 "CourierWar$Troop" "lostInTurn" "I") ∈ lw_tbl := List.mem_of_getElem? (i := 91) (by decide +kernel)
theorem tw_92 : (Cond.fieldLink "CourierWar$Marshal" 129 "CourierWar$Troop" "lostInTurn" "I") ∈ lw_tbl := List.mem_of_getElem? (i := 92) (by decide +kernel)
theorem tw_93 : (Cond.fieldLink "CourierWar$War" 107 "CourierWar$Troop" "lostInTurn" "I") ∈ lw_tbl := List.mem_of_getElem? (i := 93) (by decide +kernel)
theorem tw_94 : (Cond.fieldLink "CourierWar$Troop" 33 "CourierWar$Troop" "ordersCome" "I") ∈ lw_tbl := List.mem_of_getElem? (i := 94) (by decide +kernel)
theorem tw_95 : (Cond.fieldLink "CourierWar$Marshal" 69 "CourierWar$Troop" "ordersCome" "I") ∈ lw_tbl := List.mem_of_getElem? (i := 95) (by decide +kernel)
theorem tw_96 : (Cond.fieldLink "CourierWar$War" 113 "CourierWar$Troop" "ordersCome" "I") ∈ lw_tbl := List.mem_of_getElem? (i := 96) (by decide +kernel)
theorem tw_97 : (Cond.lays "CourierWar$Troop" "CourierWar$Troop" "side" "I") ∈ lw_tbl := List.mem_of_getElem? (i := 97) (by decide +kernel)
theorem tw_99 : (Cond.lays "CourierWar$Troop" "CourierWar$Troop" "cell" "I") ∈ lw_tbl := List.mem_of_getElem? (i := 99) (by decide +kernel)
theorem tw_101 : (Cond.lays "CourierWar$Troop" "CourierWar$Troop" "strength" "I") ∈ lw_tbl := List.mem_of_getElem? (i := 101) (by decide +kernel)
theorem tw_103 : (Cond.lays "CourierWar$Troop" "CourierWar$Troop" "goal" "I") ∈ lw_tbl := List.mem_of_getElem? (i := 103) (by decide +kernel)
theorem tw_105 : (Cond.lays "CourierWar$Troop" "CourierWar$Troop" "condition" "I") ∈ lw_tbl := List.mem_of_getElem? (i := 105) (by decide +kernel)
theorem tw_107 : (Cond.lays "CourierWar$Troop" "CourierWar$Troop" "strengthAtFirst" "I") ∈ lw_tbl := List.mem_of_getElem? (i := 107) (by decide +kernel)
theorem tw_109 : (Cond.lays "CourierWar$Troop" "CourierWar$Troop" "lostInTurn" "I") ∈ lw_tbl := List.mem_of_getElem? (i := 109) (by decide +kernel)
theorem tw_111 : (Cond.lays "CourierWar$Troop" "CourierWar$Troop" "ordersCome" "I") ∈ lw_tbl := List.mem_of_getElem? (i := 111) (by decide +kernel)
theorem tw_114 : (Cond.instantiable "CourierWar$Order" 4) ∈ lw_tbl := List.mem_of_getElem? (i := 114) (by decide +kernel)
theorem tw_115 : (Cond.methodLinkNest "CourierWar$War" 38 ⟨"CourierWar$Order", "<init>", "()V"⟩ "CourierWar") ∈ lw_tbl := List.mem_of_getElem? (i := 115) (by decide +kernel)
theorem tw_116 : (Cond.instanceMethod ⟨"CourierWar$Order", "<init>", "()V"⟩) ∈ lw_tbl := List.mem_of_getElem? (i := 116) (by decide +kernel)
theorem tw_117 : (Cond.code ⟨"CourierWar$Order", "<init>", "()V"⟩ prog_5_method_1_code 1 none) ∈ lw_tbl := List.mem_of_getElem? (i := 117) (by decide +kernel)
theorem tw_118 : (Cond.methodLink "CourierWar$Order" 1 ⟨"java/lang/Object", "<init>", "()V"⟩) ∈ lw_tbl := List.mem_of_getElem? (i := 118) (by decide +kernel)
theorem tw_119 : (Cond.fieldLink "CourierWar$Order" 7 "CourierWar$Order" "number" "I") ∈ lw_tbl := List.mem_of_getElem? (i := 119) (by decide +kernel)
theorem tw_120 : (Cond.fieldLink "CourierWar$Order" 13 "CourierWar$Order" "troop" "I") ∈ lw_tbl := List.mem_of_getElem? (i := 120) (by decide +kernel)
theorem tw_121 : (Cond.fieldLink "CourierWar$Marshal" 57 "CourierWar$Order" "troop" "I") ∈ lw_tbl := List.mem_of_getElem? (i := 121) (by decide +kernel)
theorem tw_122 : (Cond.fieldLink "CourierWar$War" 122 "CourierWar$Order" "troop" "I") ∈ lw_tbl := List.mem_of_getElem? (i := 122) (by decide +kernel)
theorem tw_123 : (Cond.fieldLink "CourierWar$Order" 16 "CourierWar$Order" "goal" "I") ∈ lw_tbl := List.mem_of_getElem? (i := 123) (by decide +kernel)
theorem tw_124 : (Cond.fieldLink "CourierWar$Marshal" 65 "CourierWar$Order" "goal" "I") ∈ lw_tbl := List.mem_of_getElem? (i := 124) (by decide +kernel)
theorem tw_125 : (Cond.fieldLink "CourierWar$Order" 19 "CourierWar$Order" "due" "I") ∈ lw_tbl := List.mem_of_getElem? (i := 125) (by decide +kernel)
theorem tw_126 : (Cond.fieldLink "CourierWar$Marshal" 52 "CourierWar$Order" "due" "I") ∈ lw_tbl := List.mem_of_getElem? (i := 126) (by decide +kernel)
theorem tw_127 : (Cond.fieldLink "CourierWar$War" 69 "CourierWar$Order" "due" "I") ∈ lw_tbl := List.mem_of_getElem? (i := 127) (by decide +kernel)
theorem tw_128 : (Cond.lays "CourierWar$Order" "CourierWar$Order" "number" "I") ∈ lw_tbl := List.mem_of_getElem? (i := 128) (by decide +kernel)
theorem tw_130 : (Cond.lays "CourierWar$Order" "CourierWar$Order" "troop" "I") ∈ lw_tbl := List.mem_of_getElem? (i := 130) (by decide +kernel)
theorem tw_132 : (Cond.lays "CourierWar$Order" "CourierWar$Order" "goal" "I") ∈ lw_tbl := List.mem_of_getElem? (i := 132) (by decide +kernel)
theorem tw_134 : (Cond.lays "CourierWar$Order" "CourierWar$Order" "due" "I") ∈ lw_tbl := List.mem_of_getElem? (i := 134) (by decide +kernel)
theorem tw_137 : (Cond.fieldLink "CourierWar$War" 12 "CourierWar$War" "terrain" "LCourierWar$Terrain;") ∈ lw_tbl := List.mem_of_getElem? (i := 137) (by decide +kernel)
theorem tw_138 : (Cond.fieldLink "CourierWar" 64 "CourierWar$War" "terrain" "LCourierWar$Terrain;") ∈ lw_tbl := List.mem_of_getElem? (i := 138) (by decide +kernel)
theorem tw_139 : (Cond.fieldLink "CourierWar$Couriers" 44 "CourierWar$War" "terrain" "LCourierWar$Terrain;") ∈ lw_tbl := List.mem_of_getElem? (i := 139) (by decide +kernel)
theorem tw_140 : (Cond.fieldLink "CourierWar$Marshal" 96 "CourierWar$War" "terrain" "LCourierWar$Terrain;") ∈ lw_tbl := List.mem_of_getElem? (i := 140) (by decide +kernel)
theorem tw_141 : (Cond.fieldLink "CourierWar$War" 18 "CourierWar$War" "generals" "[I") ∈ lw_tbl := List.mem_of_getElem? (i := 141) (by decide +kernel)
theorem tw_142 : (Cond.fieldLink "CourierWar$Couriers" 35 "CourierWar$War" "generals" "[I") ∈ lw_tbl := List.mem_of_getElem? (i := 142) (by decide +kernel)
theorem tw_143 : (Cond.fieldLink "CourierWar" 77 "CourierWar$War" "generals" "[I") ∈ lw_tbl := List.mem_of_getElem? (i := 143) (by decide +kernel)
theorem tw_144 : (Cond.fieldLink "CourierWar$War" 24 "CourierWar$War" "troops" "[LCourierWar$Troop;") ∈ lw_tbl := List.mem_of_getElem? (i := 144) (by decide +kernel)
theorem tw_145 : (Cond.fieldLink "CourierWar$Marshal" 37 "CourierWar$War" "troops" "[LCourierWar$Troop;") ∈ lw_tbl := List.mem_of_getElem? (i := 145) (by decide +kernel)
theorem tw_146 : (Cond.fieldLink "CourierWar$Couriers" 29 "CourierWar$War" "troops" "[LCourierWar$Troop;") ∈ lw_tbl := List.mem_of_getElem? (i := 146) (by decide +kernel)
theorem tw_147 : (Cond.fieldLink "CourierWar" 215 "CourierWar$War" "troops" "[LCourierWar$Troop;") ∈ lw_tbl := List.mem_of_getElem? (i := 147) (by decide +kernel)
theorem tw_148 : (Cond.fieldLink "CourierWar$Marshal" 34 "CourierWar$War" "troopCount" "I") ∈ lw_tbl := List.mem_of_getElem? (i := 148) (by decide +kernel)
theorem tw_149 : (Cond.fieldLink "CourierWar$War" 43 "CourierWar$War" "troopCount" "I") ∈ lw_tbl := List.mem_of_getElem? (i := 149) (by decide +kernel)
theorem tw_150 : (Cond.fieldLink "CourierWar" 83 "CourierWar$War" "troopCount" "I") ∈ lw_tbl := List.mem_of_getElem? (i := 150) (by decide +kernel)
theorem tw_151 : (Cond.fieldLink "CourierWar$War" 30 "CourierWar$War" "orders" "[LCourierWar$Order;") ∈ lw_tbl := List.mem_of_getElem? (i := 151) (by decide +kernel)
theorem tw_152 : (Cond.fieldLink "CourierWar$Marshal" 48 "CourierWar$War" "orders" "[LCourierWar$Order;") ∈ lw_tbl := List.mem_of_getElem? (i := 152) (by decide +kernel)
theorem tw_153 : (Cond.fieldLink "CourierWar" 186 "CourierWar$War" "orders" "[LCourierWar$Order;") ∈ lw_tbl := List.mem_of_getElem? (i := 153) (by decide +kernel)
theorem tw_154 : (Cond.fieldLink "CourierWar$War" 50 "CourierWar$War" "orderCount" "I") ∈ lw_tbl := List.mem_of_getElem? (i := 154) (by decide +kernel)
theorem tw_155 : (Cond.fieldLink "CourierWar$Marshal" 45 "CourierWar$War" "orderCount" "I") ∈ lw_tbl := List.mem_of_getElem? (i := 155) (by decide +kernel)
theorem tw_156 : (Cond.fieldLink "CourierWar$Couriers" 72 "CourierWar$War" "orderCount" "I") ∈ lw_tbl := List.mem_of_getElem? (i := 156) (by decide +kernel)
theorem tw_157 : (Cond.fieldLink "CourierWar" 178 "CourierWar$War" "orderCount" "I") ∈ lw_tbl := List.mem_of_getElem? (i := 157) (by decide +kernel)
theorem tw_158 : (Cond.fieldLink "CourierWar$Marshal" 18 "CourierWar$War" "turn" "I") ∈ lw_tbl := List.mem_of_getElem? (i := 158) (by decide +kernel)
theorem tw_159 : (Cond.fieldLink "CourierWar$War" 56 "CourierWar$War" "turn" "I") ∈ lw_tbl := List.mem_of_getElem? (i := 159) (by decide +kernel)
theorem tw_160 : (Cond.fieldLink "CourierWar" 115 "CourierWar$War" "turn" "I") ∈ lw_tbl := List.mem_of_getElem? (i := 160) (by decide +kernel)
theorem tw_161 : (Cond.fieldLink "CourierWar$War" 59 "CourierWar$War" "ordersGiven" "I") ∈ lw_tbl := List.mem_of_getElem? (i := 161) (by decide +kernel)
theorem tw_162 : (Cond.fieldLink "CourierWar$War" 62 "CourierWar$War" "ordersLost" "I") ∈ lw_tbl := List.mem_of_getElem? (i := 162) (by decide +kernel)
theorem tw_163 : (Cond.fieldLink "CourierWar$Marshal" 72 "CourierWar$War" "ordersLost" "I") ∈ lw_tbl := List.mem_of_getElem? (i := 163) (by decide +kernel)
theorem tw_164 : (Cond.fieldLink "CourierWar$War" 34 "CourierWar$War" "lostBySide" "[I") ∈ lw_tbl := List.mem_of_getElem? (i := 164) (by decide +kernel)
theorem tw_165 : (Cond.fieldLink "CourierWar$Marshal" 135 "CourierWar$War" "lostBySide" "[I") ∈ lw_tbl := List.mem_of_getElem? (i := 165) (by decide +kernel)
theorem tw_166 : (Cond.laysFinal "CourierWar$War" "CourierWar$War" "terrain" "LCourierWar$Terrain;") ∈ lw_tbl := List.mem_of_getElem? (i := 166) (by decide +kernel)
theorem tw_168 : (Cond.laysFinal "CourierWar$War" "CourierWar$War" "generals" "[I") ∈ lw_tbl := List.mem_of_getElem? (i := 168) (by decide +kernel)
theorem tw_170 : (Cond.laysFinal "CourierWar$War" "CourierWar$War" "troops" "[LCourierWar$Troop;") ∈ lw_tbl := List.mem_of_getElem? (i := 170) (by decide +kernel)
theorem tw_172 : (Cond.lays "CourierWar$War" "CourierWar$War" "troopCount" "I") ∈ lw_tbl := List.mem_of_getElem? (i := 172) (by decide +kernel)
theorem tw_174 : (Cond.laysFinal "CourierWar$War" "CourierWar$War" "orders" "[LCourierWar$Order;") ∈ lw_tbl := List.mem_of_getElem? (i := 174) (by decide +kernel)
theorem tw_176 : (Cond.lays "CourierWar$War" "CourierWar$War" "orderCount" "I") ∈ lw_tbl := List.mem_of_getElem? (i := 176) (by decide +kernel)
theorem tw_178 : (Cond.lays "CourierWar$War" "CourierWar$War" "turn" "I") ∈ lw_tbl := List.mem_of_getElem? (i := 178) (by decide +kernel)
theorem tw_180 : (Cond.lays "CourierWar$War" "CourierWar$War" "ordersGiven" "I") ∈ lw_tbl := List.mem_of_getElem? (i := 180) (by decide +kernel)
theorem tw_182 : (Cond.lays "CourierWar$War" "CourierWar$War" "ordersLost" "I") ∈ lw_tbl := List.mem_of_getElem? (i := 182) (by decide +kernel)
theorem tw_184 : (Cond.laysFinal "CourierWar$War" "CourierWar$War" "lostBySide" "[I") ∈ lw_tbl := List.mem_of_getElem? (i := 184) (by decide +kernel)
theorem tw_187 : (Cond.classLink "CourierWar" 19 "CourierWar$History") ∈ lw_tbl := List.mem_of_getElem? (i := 187) (by decide +kernel)
theorem tw_188 : (Cond.instantiable "CourierWar$History" 2) ∈ lw_tbl := List.mem_of_getElem? (i := 188) (by decide +kernel)
theorem tw_189 : (Cond.methodLink "CourierWar" 21 ⟨"CourierWar$History", "<init>", "()V"⟩) ∈ lw_tbl := List.mem_of_getElem? (i := 189) (by decide +kernel)
theorem tw_190 : (Cond.instanceMethod ⟨"CourierWar$History", "<init>", "()V"⟩) ∈ lw_tbl := List.mem_of_getElem? (i := 190) (by decide +kernel)
theorem tw_191 : (Cond.code ⟨"CourierWar$History", "<init>", "()V"⟩ prog_3_method_1_code 2 none) ∈ lw_tbl := List.mem_of_getElem? (i := 191) (by decide +kernel)
theorem tw_192 : (Cond.methodLink "CourierWar$History" 3 ⟨"java/lang/Object", "<init>", "()V"⟩) ∈ lw_tbl := List.mem_of_getElem? (i := 192) (by decide +kernel)
theorem tw_193 : (Cond.classLink "CourierWar$History" 9 "CourierWar$War") ∈ lw_tbl := List.mem_of_getElem? (i := 193) (by decide +kernel)
theorem tw_194 : (Cond.arrayOver (.object "CourierWar$War")) ∈ lw_tbl := List.mem_of_getElem? (i := 194) (by decide +kernel)
theorem tw_195 : (Cond.methodLink "CourierWar$History" 17 ⟨"CourierWar$War", "<init>", "()V"⟩) ∈ lw_tbl := List.mem_of_getElem? (i := 195) (by decide +kernel)
theorem tw_196 : (Cond.fieldLink "CourierWar$History" 11 "CourierWar$History" "saved" "[LCourierWar$War;") ∈ lw_tbl := List.mem_of_getElem? (i := 196) (by decide +kernel)
theorem tw_197 : (Cond.fieldLink "CourierWar$History" 18 "CourierWar$History" "size" "I") ∈ lw_tbl := List.mem_of_getElem? (i := 197) (by decide +kernel)
theorem tw_198 : (Cond.fieldLink "CourierWar" 160 "CourierWar$History" "size" "I") ∈ lw_tbl := List.mem_of_getElem? (i := 198) (by decide +kernel)
theorem tw_199 : (Cond.laysFinal "CourierWar$History" "CourierWar$History" "saved" "[LCourierWar$War;") ∈ lw_tbl := List.mem_of_getElem? (i := 199) (by decide +kernel)
theorem tw_201 : (Cond.lays "CourierWar$History" "CourierWar$History" "size" "I") ∈ lw_tbl := List.mem_of_getElem? (i := 201) (by decide +kernel)
theorem tw_204 : (Cond.classLink "CourierWar" 26 "CourierWar$Text") ∈ lw_tbl := List.mem_of_getElem? (i := 204) (by decide +kernel)
theorem tw_205 : (Cond.instantiable "CourierWar$Text" 4) ∈ lw_tbl := List.mem_of_getElem? (i := 205) (by decide +kernel)
theorem tw_206 : (Cond.methodLinkNest "CourierWar" 28 ⟨"CourierWar$Text", "<init>", "()V"⟩ "CourierWar") ∈ lw_tbl := List.mem_of_getElem? (i := 206) (by decide +kernel)
theorem tw_207 : (Cond.instanceMethod ⟨"CourierWar$Text", "<init>", "()V"⟩) ∈ lw_tbl := List.mem_of_getElem? (i := 207) (by decide +kernel)
theorem tw_208 : (Cond.code ⟨"CourierWar$Text", "<init>", "()V"⟩ prog_8_method_1_code 1 none) ∈ lw_tbl := List.mem_of_getElem? (i := 208) (by decide +kernel)
theorem tw_209 : (Cond.methodLink "CourierWar$Text" 3 ⟨"java/lang/Object", "<init>", "()V"⟩) ∈ lw_tbl := List.mem_of_getElem? (i := 209) (by decide +kernel)
theorem tw_210 : (Cond.fieldLink "CourierWar$Text" 9 "CourierWar$Text" "codes" "[I") ∈ lw_tbl := List.mem_of_getElem? (i := 210) (by decide +kernel)
theorem tw_211 : (Cond.fieldLink "CourierWar$Text" 15 "CourierWar$Text" "troops" "[I") ∈ lw_tbl := List.mem_of_getElem? (i := 211) (by decide +kernel)
theorem tw_212 : (Cond.fieldLink "CourierWar$Text" 18 "CourierWar$Text" "goals" "[I") ∈ lw_tbl := List.mem_of_getElem? (i := 212) (by decide +kernel)
theorem tw_213 : (Cond.laysFinal "CourierWar$Text" "CourierWar$Text" "codes" "[I") ∈ lw_tbl := List.mem_of_getElem? (i := 213) (by decide +kernel)
theorem tw_215 : (Cond.lays "CourierWar$Text" "CourierWar$Text" "length" "I") ∈ lw_tbl := List.mem_of_getElem? (i := 215) (by decide +kernel)
theorem tw_217 : (Cond.laysFinal "CourierWar$Text" "CourierWar$Text" "troops" "[I") ∈ lw_tbl := List.mem_of_getElem? (i := 217) (by decide +kernel)
theorem tw_219 : (Cond.laysFinal "CourierWar$Text" "CourierWar$Text" "goals" "[I") ∈ lw_tbl := List.mem_of_getElem? (i := 219) (by decide +kernel)
theorem tw_222 : (Cond.classLink "CourierWar" 33 "CourierWar$Couriers") ∈ lw_tbl := List.mem_of_getElem? (i := 222) (by decide +kernel)
theorem tw_223 : (Cond.instantiable "CourierWar$Couriers" 2) ∈ lw_tbl := List.mem_of_getElem? (i := 223) (by decide +kernel)
theorem tw_224 : (Cond.methodLinkNest "CourierWar" 35 ⟨"CourierWar$Couriers", "<init>", "()V"⟩ "CourierWar") ∈ lw_tbl := List.mem_of_getElem? (i := 224) (by decide +kernel)
theorem tw_225 : (Cond.instanceMethod ⟨"CourierWar$Couriers", "<init>", "()V"⟩) ∈ lw_tbl := List.mem_of_getElem? (i := 225) (by decide +kernel)
theorem tw_226 : (Cond.code ⟨"CourierWar$Couriers", "<init>", "()V"⟩ prog_2_method_1_code 1 none) ∈ lw_tbl := List.mem_of_getElem? (i := 226) (by decide +kernel)
theorem tw_227 : (Cond.methodLink "CourierWar$Couriers" 3 ⟨"java/lang/Object", "<init>", "()V"⟩) ∈ lw_tbl := List.mem_of_getElem? (i := 227) (by decide +kernel)
theorem tw_228 : (Cond.classLink "CourierWar$Couriers" 9 "CourierWar$Paths") ∈ lw_tbl := List.mem_of_getElem? (i := 228) (by decide +kernel)
theorem tw_229 : (Cond.instantiable "CourierWar$Paths" 3) ∈ lw_tbl := List.mem_of_getElem? (i := 229) (by decide +kernel)
theorem tw_230 : (Cond.methodLinkNest "CourierWar$Couriers" 11 ⟨"CourierWar$Paths", "<init>", "()V"⟩ "CourierWar") ∈ lw_tbl := List.mem_of_getElem? (i := 230) (by decide +kernel)
theorem tw_231 : (Cond.instanceMethod ⟨"CourierWar$Paths", "<init>", "()V"⟩) ∈ lw_tbl := List.mem_of_getElem? (i := 231) (by decide +kernel)
theorem tw_232 : (Cond.code ⟨"CourierWar$Paths", "<init>", "()V"⟩ prog_6_method_1_code 1 none) ∈ lw_tbl := List.mem_of_getElem? (i := 232) (by decide +kernel)
theorem tw_233 : (Cond.methodLink "CourierWar$Paths" 3 ⟨"java/lang/Object", "<init>", "()V"⟩) ∈ lw_tbl := List.mem_of_getElem? (i := 233) (by decide +kernel)
theorem tw_234 : (Cond.fieldLink "CourierWar$Paths" 9 "CourierWar$Paths" "steps" "[I") ∈ lw_tbl := List.mem_of_getElem? (i := 234) (by decide +kernel)
theorem tw_235 : (Cond.fieldLink "CourierWar$Couriers" 26 "CourierWar$Paths" "steps" "[I") ∈ lw_tbl := List.mem_of_getElem? (i := 235) (by decide +kernel)
theorem tw_236 : (Cond.fieldLink "CourierWar$Paths" 15 "CourierWar$Paths" "queue" "[I") ∈ lw_tbl := List.mem_of_getElem? (i := 236) (by decide +kernel)
theorem tw_237 : (Cond.fieldLink "CourierWar$Paths" 18 "CourierWar$Paths" "taken" "[I") ∈ lw_tbl := List.mem_of_getElem? (i := 237) (by decide +kernel)
theorem tw_238 : (Cond.fieldLink "CourierWar$Marshal" 92 "CourierWar$Paths" "taken" "[I") ∈ lw_tbl := List.mem_of_getElem? (i := 238) (by decide +kernel)
theorem tw_239 : (Cond.laysFinal "CourierWar$Paths" "CourierWar$Paths" "steps" "[I") ∈ lw_tbl := List.mem_of_getElem? (i := 239) (by decide +kernel)
theorem tw_241 : (Cond.laysFinal "CourierWar$Paths" "CourierWar$Paths" "queue" "[I") ∈ lw_tbl := List.mem_of_getElem? (i := 241) (by decide +kernel)
theorem tw_243 : (Cond.laysFinal "CourierWar$Paths" "CourierWar$Paths" "taken" "[I") ∈ lw_tbl := List.mem_of_getElem? (i := 243) (by decide +kernel)
theorem tw_246 : (Cond.fieldLink "CourierWar$Couriers" 12 "CourierWar$Couriers" "paths" "LCourierWar$Paths;") ∈ lw_tbl := List.mem_of_getElem? (i := 246) (by decide +kernel)
theorem tw_247 : (Cond.fieldLink "CourierWar$Couriers" 18 "CourierWar$Couriers" "sums" "[I") ∈ lw_tbl := List.mem_of_getElem? (i := 247) (by decide +kernel)
theorem tw_248 : (Cond.laysFinal "CourierWar$Couriers" "CourierWar$Couriers" "paths" "LCourierWar$Paths;") ∈ lw_tbl := List.mem_of_getElem? (i := 248) (by decide +kernel)
theorem tw_250 : (Cond.laysFinal "CourierWar$Couriers" "CourierWar$Couriers" "sums" "[I") ∈ lw_tbl := List.mem_of_getElem? (i := 250) (by decide +kernel)
theorem tw_253 : (Cond.classLink "CourierWar" 40 "CourierWar$Marshal") ∈ lw_tbl := List.mem_of_getElem? (i := 253) (by decide +kernel)
theorem tw_254 : (Cond.instantiable "CourierWar$Marshal" 1) ∈ lw_tbl := List.mem_of_getElem? (i := 254) (by decide +kernel)
theorem tw_255 : (Cond.methodLinkNest "CourierWar" 42 ⟨"CourierWar$Marshal", "<init>", "()V"⟩ "CourierWar") ∈ lw_tbl := List.mem_of_getElem? (i := 255) (by decide +kernel)
theorem tw_256 : (Cond.instanceMethod ⟨"CourierWar$Marshal", "<init>", "()V"⟩) ∈ lw_tbl := List.mem_of_getElem? (i := 256) (by decide +kernel)
theorem tw_257 : (Cond.code ⟨"CourierWar$Marshal", "<init>", "()V"⟩ prog_4_method_1_code 1 none) ∈ lw_tbl := List.mem_of_getElem? (i := 257) (by decide +kernel)
theorem tw_258 : (Cond.methodLink "CourierWar$Marshal" 3 ⟨"java/lang/Object", "<init>", "()V"⟩) ∈ lw_tbl := List.mem_of_getElem? (i := 258) (by decide +kernel)
theorem tw_259 : (Cond.classLink "CourierWar$Marshal" 9 "CourierWar$Paths") ∈ lw_tbl := List.mem_of_getElem? (i := 259) (by decide +kernel)
theorem tw_260 : (Cond.methodLinkNest "CourierWar$Marshal" 11 ⟨"CourierWar$Paths", "<init>", "()V"⟩ "CourierWar") ∈ lw_tbl := List.mem_of_getElem? (i := 260) (by decide +kernel)
theorem tw_261 : (Cond.fieldLink "CourierWar$Marshal" 12 "CourierWar$Marshal" "paths" "LCourierWar$Paths;") ∈ lw_tbl := List.mem_of_getElem? (i := 261) (by decide +kernel)
theorem tw_262 : (Cond.laysFinal "CourierWar$Marshal" "CourierWar$Marshal" "paths" "LCourierWar$Paths;") ∈ lw_tbl := List.mem_of_getElem? (i := 262) (by decide +kernel)
theorem tw_265 : (Cond.fieldLink "CourierWar" 12 "CourierWar" "war" "LCourierWar$War;") ∈ lw_tbl := List.mem_of_getElem? (i := 265) (by decide +kernel)
theorem tw_266 : (Cond.fieldLink "CourierWar" 16 "CourierWar" "trial" "LCourierWar$War;") ∈ lw_tbl := List.mem_of_getElem? (i := 266) (by decide +kernel)
theorem tw_267 : (Cond.fieldLink "CourierWar" 22 "CourierWar" "history" "LCourierWar$History;") ∈ lw_tbl := List.mem_of_getElem? (i := 267) (by decide +kernel)
theorem tw_268 : (Cond.fieldLink "CourierWar" 29 "CourierWar" "text" "LCourierWar$Text;") ∈ lw_tbl := List.mem_of_getElem? (i := 268) (by decide +kernel)
theorem tw_269 : (Cond.fieldLink "CourierWar" 36 "CourierWar" "couriers" "LCourierWar$Couriers;") ∈ lw_tbl := List.mem_of_getElem? (i := 269) (by decide +kernel)
theorem tw_270 : (Cond.fieldLink "CourierWar" 43 "CourierWar" "marshal" "LCourierWar$Marshal;") ∈ lw_tbl := List.mem_of_getElem? (i := 270) (by decide +kernel)
theorem tw_271 : (Cond.laysFinal "CourierWar" "CourierWar" "war" "LCourierWar$War;") ∈ lw_tbl := List.mem_of_getElem? (i := 271) (by decide +kernel)
theorem tw_273 : (Cond.laysFinal "CourierWar" "CourierWar" "trial" "LCourierWar$War;") ∈ lw_tbl := List.mem_of_getElem? (i := 273) (by decide +kernel)
theorem tw_275 : (Cond.laysFinal "CourierWar" "CourierWar" "history" "LCourierWar$History;") ∈ lw_tbl := List.mem_of_getElem? (i := 275) (by decide +kernel)
theorem tw_277 : (Cond.laysFinal "CourierWar" "CourierWar" "text" "LCourierWar$Text;") ∈ lw_tbl := List.mem_of_getElem? (i := 277) (by decide +kernel)
theorem tw_279 : (Cond.laysFinal "CourierWar" "CourierWar" "couriers" "LCourierWar$Couriers;") ∈ lw_tbl := List.mem_of_getElem? (i := 279) (by decide +kernel)
theorem tw_281 : (Cond.laysFinal "CourierWar" "CourierWar" "marshal" "LCourierWar$Marshal;") ∈ lw_tbl := List.mem_of_getElem? (i := 281) (by decide +kernel)
theorem tw_284 : (Cond.methodLink "CourierWarLaw" 90 ⟨"CourierWar", "shape", "(III)I"⟩) ∈ lw_tbl := List.mem_of_getElem? (i := 284) (by decide +kernel)
theorem tw_285 : (Cond.instanceMethod ⟨"CourierWar", "shape", "(III)I"⟩) ∈ lw_tbl := List.mem_of_getElem? (i := 285) (by decide +kernel)
theorem tw_286 : (Cond.selects "CourierWar" ⟨"CourierWar", "shape", "(III)I"⟩ ⟨"CourierWar", "shape", "(III)I"⟩) ∈ lw_tbl := List.mem_of_getElem? (i := 286) (by decide +kernel)
theorem tw_287 : (Cond.code ⟨"CourierWar", "shape", "(III)I"⟩ prog_1_method_2_code 4 (some .int)) ∈ lw_tbl := List.mem_of_getElem? (i := 287) (by decide +kernel)
theorem tw_288 : (Cond.methodLink "CourierWar" 47 ⟨"CourierWar", "needCell", "(I)V"⟩) ∈ lw_tbl := List.mem_of_getElem? (i := 288) (by decide +kernel)
theorem tw_289 : (Cond.static ⟨"CourierWar", "needCell", "(I)V"⟩) ∈ lw_tbl := List.mem_of_getElem? (i := 289) (by decide +kernel)
theorem tw_290 : (Cond.code ⟨"CourierWar", "needCell", "(I)V"⟩ prog_1_method_24_code 1 none) ∈ lw_tbl := List.mem_of_getElem? (i := 290) (by decide +kernel)
theorem tw_291 : (Cond.classLink "CourierWar" 181 "java/lang/IndexOutOfBoundsException") ∈ lw_tbl := List.mem_of_getElem? (i := 291) (by decide +kernel)
theorem tw_292 : (Cond.instantiable "java/lang/IndexOutOfBoundsException" 6) ∈ lw_tbl := List.mem_of_getElem? (i := 292) (by decide +kernel)
theorem tw_293 : (Cond.castable "java/lang/IndexOutOfBoundsException" "java/lang/IndexOutOfBoundsException") ∈ lw_tbl := List.mem_of_getElem? (i := 293) (by decide +kernel)
theorem tw_300 : (Cond.selects "java/lang/IndexOutOfBoundsException" ⟨"java/lang/Throwable", "fillInStackTrace", "(I)Ljava/lang/Throwable;"⟩ ⟨"java/lang/Throwable", "fillInStackTrace", "(I)Ljava/lang/Throwable;"⟩) ∈ lw_tbl := List.mem_of_getElem? (i := 300) (by decide +kernel)
theorem tw_301 : (Cond.selects "java/lang/IndexOutOfBoundsException" ⟨"java/lang/Throwable", "fillInStackTrace", "()Ljava/lang/Throwable;"⟩ ⟨"java/lang/Throwable", "fillInStackTrace", "()Ljava/lang/Throwable;"⟩) ∈ lw_tbl := List.mem_of_getElem? (i := 301) (by decide +kernel)
theorem tw_302 : (Cond.lays "java/lang/IndexOutOfBoundsException" "java/lang/Throwable" "cause" "Ljava/lang/Throwable;") ∈ lw_tbl := List.mem_of_getElem? (i := 302) (by decide +kernel)
theorem tw_303 : (Cond.lays "java/lang/Throwable" "java/lang/Throwable" "cause" "Ljava/lang/Throwable;") ∈ lw_tbl := List.mem_of_getElem? (i := 303) (by decide +kernel)
theorem tw_304 : (Cond.lays "java/lang/IndexOutOfBoundsException" "java/lang/Throwable" "stackTrace" "[Ljava/lang/StackTraceElement;") ∈ lw_tbl := List.mem_of_getElem? (i := 304) (by decide +kernel)
theorem tw_305 : (Cond.lays "java/lang/Throwable" "java/lang/Throwable" "stackTrace" "[Ljava/lang/StackTraceElement;") ∈ lw_tbl := List.mem_of_getElem? (i := 305) (by decide +kernel)
theorem tw_306 : (Cond.lays "java/lang/IndexOutOfBoundsException" "java/lang/Throwable" "suppressedExceptions" "Ljava/util/List;") ∈ lw_tbl := List.mem_of_getElem? (i := 306) (by decide +kernel)
theorem tw_307 : (Cond.lays "java/lang/Throwable" "java/lang/Throwable" "suppressedExceptions" "Ljava/util/List;") ∈ lw_tbl := List.mem_of_getElem? (i := 307) (by decide +kernel)
theorem tw_308 : (Cond.lays "java/lang/IndexOutOfBoundsException" "java/lang/Throwable" "detailMessage" "Ljava/lang/String;") ∈ lw_tbl := List.mem_of_getElem? (i := 308) (by decide +kernel)
theorem tw_309 : (Cond.lays "java/lang/Throwable" "java/lang/Throwable" "detailMessage" "Ljava/lang/String;") ∈ lw_tbl := List.mem_of_getElem? (i := 309) (by decide +kernel)
theorem tw_310 : (Cond.lays "java/lang/IndexOutOfBoundsException" "java/lang/Throwable" "backtrace" "Ljava/lang/Object;") ∈ lw_tbl := List.mem_of_getElem? (i := 310) (by decide +kernel)
theorem tw_311 : (Cond.lays "java/lang/Throwable" "java/lang/Throwable" "backtrace" "Ljava/lang/Object;") ∈ lw_tbl := List.mem_of_getElem? (i := 311) (by decide +kernel)
theorem tw_312 : (Cond.fieldLink "java/lang/Throwable" 198 "java/lang/Throwable" "backtrace" "Ljava/lang/Object;") ∈ lw_tbl := List.mem_of_getElem? (i := 312) (by decide +kernel)
theorem tw_314 : (Cond.instanceMethod ⟨"java/lang/Throwable", "<init>", "()V"⟩) ∈ lw_tbl := List.mem_of_getElem? (i := 314) (by decide +kernel)
theorem tw_315 : (Cond.code ⟨"java/lang/Throwable", "<init>", "()V"⟩ prog_21_method_1_code 1 none) ∈ lw_tbl := List.mem_of_getElem? (i := 315) (by decide +kernel)
theorem tw_316 : (Cond.methodLink "java/lang/Throwable" 1 ⟨"java/lang/Object", "<init>", "()V"⟩) ∈ lw_tbl := List.mem_of_getElem? (i := 316) (by decide +kernel)
theorem tw_317 : (Cond.fieldLink "java/lang/Throwable" 13 "java/lang/Throwable" "UNASSIGNED_STACK" "[Ljava/lang/StackTraceElement;") ∈ lw_tbl := List.mem_of_getElem? (i := 317) (by decide +kernel)
theorem tw_319 : (Cond.fieldLink "java/lang/Throwable" 20 "java/lang/Throwable" "SUPPRESSED_SENTINEL" "Ljava/util/List;") ∈ lw_tbl := List.mem_of_getElem? (i := 319) (by decide +kernel)
theorem tw_321 : (Cond.methodLink "java/lang/Throwable" 27 ⟨"java/lang/Throwable", "fillInStackTrace", "()Ljava/lang/Throwable;"⟩) ∈ lw_tbl := List.mem_of_getElem? (i := 321) (by decide +kernel)
theorem tw_322 : (Cond.instanceMethod ⟨"java/lang/Throwable", "fillInStackTrace", "()Ljava/lang/Throwable;"⟩) ∈ lw_tbl := List.mem_of_getElem? (i := 322) (by decide +kernel)
theorem tw_324 : (Cond.selects "java/lang/IllegalArgumentException" ⟨"java/lang/Throwable", "fillInStackTrace", "()Ljava/lang/Throwable;"⟩ ⟨"java/lang/Throwable", "fillInStackTrace", "()Ljava/lang/Throwable;"⟩) ∈ lw_tbl := List.mem_of_getElem? (i := 324) (by decide +kernel)
theorem tw_325 : (Cond.selects "java/lang/IllegalStateException" ⟨"java/lang/Throwable", "fillInStackTrace", "()Ljava/lang/Throwable;"⟩ ⟨"java/lang/Throwable", "fillInStackTrace", "()Ljava/lang/Throwable;"⟩) ∈ lw_tbl := List.mem_of_getElem? (i := 325) (by decide +kernel)
theorem tw_327 : (Cond.methodLink "java/lang/Throwable" 202 ⟨"java/lang/Throwable", "fillInStackTrace", "(I)Ljava/lang/Throwable;"⟩) ∈ lw_tbl := List.mem_of_getElem? (i := 327) (by decide +kernel)
theorem tw_329 : (Cond.instanceMethod ⟨"java/lang/Throwable", "fillInStackTrace", "(I)Ljava/lang/Throwable;"⟩) ∈ lw_tbl := List.mem_of_getElem? (i := 329) (by decide +kernel)
theorem tw_330 : (Cond.instantiable "java/lang/Throwable" 6) ∈ lw_tbl := List.mem_of_getElem? (i := 330) (by decide +kernel)
theorem tw_331 : (Cond.native ⟨"java/lang/Throwable", "fillInStackTrace", "(I)Ljava/lang/Throwable;"⟩) ∈ lw_tbl := List.mem_of_getElem? (i := 331) (by decide +kernel)
theorem tw_332 : (Cond.stringRef "CourierWar" 265 "there is no such cell") ∈ lw_tbl := List.mem_of_getElem? (i := 332) (by decide +kernel)
theorem tw_333 : (Cond.methodLink "CourierWar" 185 ⟨"java/lang/IndexOutOfBoundsException", "<init>", "(Ljava/lang/String;)V"⟩) ∈ lw_tbl := List.mem_of_getElem? (i := 333) (by decide +kernel)
theorem tw_334 : (Cond.instanceMethod ⟨"java/lang/IndexOutOfBoundsException", "<init>", "(Ljava/lang/String;)V"⟩) ∈ lw_tbl := List.mem_of_getElem? (i := 334) (by decide +kernel)
theorem tw_335 : (Cond.code ⟨"java/lang/IndexOutOfBoundsException", "<init>", "(Ljava/lang/String;)V"⟩ prog_16_method_2_code 2 none) ∈ lw_tbl := List.mem_of_getElem? (i := 335) (by decide +kernel)
theorem tw_336 : (Cond.methodLink "java/lang/IndexOutOfBoundsException" 7 ⟨"java/lang/RuntimeException", "<init>", "(Ljava/lang/String;)V"⟩) ∈ lw_tbl := List.mem_of_getElem? (i := 336) (by decide +kernel)
theorem tw_337 : (Cond.instanceMethod ⟨"java/lang/RuntimeException", "<init>", "(Ljava/lang/String;)V"⟩) ∈ lw_tbl := List.mem_of_getElem? (i := 337) (by decide +kernel)
theorem tw_338 : (Cond.code ⟨"java/lang/RuntimeException", "<init>", "(Ljava/lang/String;)V"⟩ prog_18_method_2_code 2 none) ∈ lw_tbl := List.mem_of_getElem? (i := 338) (by decide +kernel)
theorem tw_339 : (Cond.methodLink "java/lang/RuntimeException" 7 ⟨"java/lang/Exception", "<init>", "(Ljava/lang/String;)V"⟩) ∈ lw_tbl := List.mem_of_getElem? (i := 339) (by decide +kernel)
theorem tw_340 : (Cond.instanceMethod ⟨"java/lang/Exception", "<init>", "(Ljava/lang/String;)V"⟩) ∈ lw_tbl := List.mem_of_getElem? (i := 340) (by decide +kernel)
theorem tw_341 : (Cond.code ⟨"java/lang/Exception", "<init>", "(Ljava/lang/String;)V"⟩ prog_13_method_2_code 2 none) ∈ lw_tbl := List.mem_of_getElem? (i := 341) (by decide +kernel)
theorem tw_342 : (Cond.methodLink "java/lang/Exception" 7 ⟨"java/lang/Throwable", "<init>", "(Ljava/lang/String;)V"⟩) ∈ lw_tbl := List.mem_of_getElem? (i := 342) (by decide +kernel)
theorem tw_343 : (Cond.instanceMethod ⟨"java/lang/Throwable", "<init>", "(Ljava/lang/String;)V"⟩) ∈ lw_tbl := List.mem_of_getElem? (i := 343) (by decide +kernel)
theorem tw_344 : (Cond.code ⟨"java/lang/Throwable", "<init>", "(Ljava/lang/String;)V"⟩ prog_21_method_2_code 2 none) ∈ lw_tbl := List.mem_of_getElem? (i := 344) (by decide +kernel)
theorem tw_345 : (Cond.fieldLink "java/lang/Throwable" 198 "java/lang/Throwable" "backtrace" "Ljava/lang/Object;") ∈ lw_tbl := List.mem_of_getElem? (i := 345) (by decide +kernel)
theorem tw_346 : (Cond.fieldLink "java/lang/Throwable" 31 "java/lang/Throwable" "detailMessage" "Ljava/lang/String;") ∈ lw_tbl := List.mem_of_getElem? (i := 346) (by decide +kernel)
theorem tw_347 : (Cond.fieldLink "java/lang/Throwable" 7 "java/lang/Throwable" "cause" "Ljava/lang/Throwable;") ∈ lw_tbl := List.mem_of_getElem? (i := 347) (by decide +kernel)
theorem tw_348 : (Cond.fieldLink "java/lang/Throwable" 17 "java/lang/Throwable" "stackTrace" "[Ljava/lang/StackTraceElement;") ∈ lw_tbl := List.mem_of_getElem? (i := 348) (by decide +kernel)
theorem tw_349 : (Cond.fieldLink "java/lang/Throwable" 24 "java/lang/Throwable" "suppressedExceptions" "Ljava/util/List;") ∈ lw_tbl := List.mem_of_getElem? (i := 349) (by decide +kernel)
theorem tw_354 : (Cond.lays "java/lang/IndexOutOfBoundsException" "java/lang/Throwable" "depth" "I") ∈ lw_tbl := List.mem_of_getElem? (i := 354) (by decide +kernel)
theorem tw_358 : (Cond.arrayClass .byte) ∈ lw_tbl := List.mem_of_getElem? (i := 358) (by decide +kernel)
theorem tw_359 : (Cond.classLink "CourierWar" 51 "java/lang/IllegalArgumentException") ∈ lw_tbl := List.mem_of_getElem? (i := 359) (by decide +kernel)
theorem tw_360 : (Cond.instantiable "java/lang/IllegalArgumentException" 6) ∈ lw_tbl := List.mem_of_getElem? (i := 360) (by decide +kernel)
theorem tw_361 : (Cond.castable "java/lang/IllegalArgumentException" "java/lang/IllegalArgumentException") ∈ lw_tbl := List.mem_of_getElem? (i := 361) (by decide +kernel)
theorem tw_362 : (Cond.selects "java/lang/IllegalArgumentException" ⟨"java/lang/Throwable", "fillInStackTrace", "(I)Ljava/lang/Throwable;"⟩ ⟨"java/lang/Throwable", "fillInStackTrace", "(I)Ljava/lang/Throwable;"⟩) ∈ lw_tbl := List.mem_of_getElem? (i := 362) (by decide +kernel)
theorem tw_363 : (Cond.lays "java/lang/IllegalArgumentException" "java/lang/Throwable" "cause" "Ljava/lang/Throwable;") ∈ lw_tbl := List.mem_of_getElem? (i := 363) (by decide +kernel)
theorem tw_364 : (Cond.lays "java/lang/IllegalArgumentException" "java/lang/Throwable" "stackTrace" "[Ljava/lang/StackTraceElement;") ∈ lw_tbl := List.mem_of_getElem? (i := 364) (by decide +kernel)
theorem tw_365 : (Cond.lays "java/lang/IllegalArgumentException" "java/lang/Throwable" "suppressedExceptions" "Ljava/util/List;") ∈ lw_tbl := List.mem_of_getElem? (i := 365) (by decide +kernel)
theorem tw_366 : (Cond.lays "java/lang/IllegalArgumentException" "java/lang/Throwable" "detailMessage" "Ljava/lang/String;") ∈ lw_tbl := List.mem_of_getElem? (i := 366) (by decide +kernel)
theorem tw_367 : (Cond.lays "java/lang/IllegalArgumentException" "java/lang/Throwable" "backtrace" "Ljava/lang/Object;") ∈ lw_tbl := List.mem_of_getElem? (i := 367) (by decide +kernel)
theorem tw_368 : (Cond.stringRef "CourierWar" 53 "the block's corners are the wrong way round") ∈ lw_tbl := List.mem_of_getElem? (i := 368) (by decide +kernel)
theorem tw_369 : (Cond.methodLink "CourierWar" 55 ⟨"java/lang/IllegalArgumentException", "<init>", "(Ljava/lang/String;)V"⟩) ∈ lw_tbl := List.mem_of_getElem? (i := 369) (by decide +kernel)
theorem tw_370 : (Cond.instanceMethod ⟨"java/lang/IllegalArgumentException", "<init>", "(Ljava/lang/String;)V"⟩) ∈ lw_tbl := List.mem_of_getElem? (i := 370) (by decide +kernel)
theorem tw_371 : (Cond.code ⟨"java/lang/IllegalArgumentException", "<init>", "(Ljava/lang/String;)V"⟩ prog_14_method_2_code 2 none) ∈ lw_tbl := List.mem_of_getElem? (i := 371) (by decide +kernel)
theorem tw_372 : (Cond.methodLink "java/lang/IllegalArgumentException" 7 ⟨"java/lang/RuntimeException", "<init>", "(Ljava/lang/String;)V"⟩) ∈ lw_tbl := List.mem_of_getElem? (i := 372) (by decide +kernel)
theorem tw_373 : (Cond.lays "java/lang/IllegalArgumentException" "java/lang/Throwable" "depth" "I") ∈ lw_tbl := List.mem_of_getElem? (i := 373) (by decide +kernel)
theorem tw_375 : (Cond.stringRef "CourierWar" 58 "a height is 0 to 9") ∈ lw_tbl := List.mem_of_getElem? (i := 375) (by decide +kernel)
theorem tw_376 : (Cond.methodLink "CourierWar" 60 ⟨"CourierWar$History", "save", "(LCourierWar$War;)V"⟩) ∈ lw_tbl := List.mem_of_getElem? (i := 376) (by decide +kernel)
theorem tw_377 : (Cond.instanceMethod ⟨"CourierWar$History", "save", "(LCourierWar$War;)V"⟩) ∈ lw_tbl := List.mem_of_getElem? (i := 377) (by decide +kernel)
theorem tw_378 : (Cond.selects "CourierWar$History" ⟨"CourierWar$History", "save", "(LCourierWar$War;)V"⟩ ⟨"CourierWar$History", "save", "(LCourierWar$War;)V"⟩) ∈ lw_tbl := List.mem_of_getElem? (i := 378) (by decide +kernel)
theorem tw_379 : (Cond.code ⟨"CourierWar$History", "save", "(LCourierWar$War;)V"⟩ prog_3_method_2_code 2 none) ∈ lw_tbl := List.mem_of_getElem? (i := 379) (by decide +kernel)
theorem tw_380 : (Cond.methodLink "CourierWar$History" 22 ⟨"CourierWar$History", "dropOldest", "()V"⟩) ∈ lw_tbl := List.mem_of_getElem? (i := 380) (by decide +kernel)
theorem tw_382 : (Cond.instanceMethod ⟨"CourierWar$History", "dropOldest", "()V"⟩) ∈ lw_tbl := List.mem_of_getElem? (i := 382) (by decide +kernel)
theorem tw_383 : (Cond.code ⟨"CourierWar$History", "dropOldest", "()V"⟩ prog_3_method_4_code 3 none) ∈ lw_tbl := List.mem_of_getElem? (i := 383) (by decide +kernel)
theorem tw_384 : (Cond.methodLink "CourierWar$History" 25 ⟨"CourierWar$War", "copyFrom", "(LCourierWar$War;)V"⟩) ∈ lw_tbl := List.mem_of_getElem? (i := 384) (by decide +kernel)
theorem tw_385 : (Cond.instanceMethod ⟨"CourierWar$War", "copyFrom", "(LCourierWar$War;)V"⟩) ∈ lw_tbl := List.mem_of_getElem? (i := 385) (by decide +kernel)
theorem tw_386 : (Cond.selects "CourierWar$War" ⟨"CourierWar$War", "copyFrom", "(LCourierWar$War;)V"⟩ ⟨"CourierWar$War", "copyFrom", "(LCourierWar$War;)V"⟩) ∈ lw_tbl := List.mem_of_getElem? (i := 386) (by decide +kernel)
theorem tw_387 : (Cond.code ⟨"CourierWar$War", "copyFrom", "(LCourierWar$War;)V"⟩ prog_10_method_2_code 3 none) ∈ lw_tbl := List.mem_of_getElem? (i := 387) (by decide +kernel)
theorem tw_388 : (Cond.methodLink "CourierWar$War" 39 ⟨"CourierWar$Terrain", "copyFrom", "(LCourierWar$Terrain;)V"⟩) ∈ lw_tbl := List.mem_of_getElem? (i := 388) (by decide +kernel)
theorem tw_389 : (Cond.instanceMethod ⟨"CourierWar$Terrain", "copyFrom", "(LCourierWar$Terrain;)V"⟩) ∈ lw_tbl := List.mem_of_getElem? (i := 389) (by decide +kernel)
theorem tw_390 : (Cond.selects "CourierWar$Terrain" ⟨"CourierWar$Terrain", "copyFrom", "(LCourierWar$Terrain;)V"⟩ ⟨"CourierWar$Terrain", "copyFrom", "(LCourierWar$Terrain;)V"⟩) ∈ lw_tbl := List.mem_of_getElem? (i := 390) (by decide +kernel)
theorem tw_391 : (Cond.code ⟨"CourierWar$Terrain", "copyFrom", "(LCourierWar$Terrain;)V"⟩ prog_7_method_2_code 2 none) ∈ lw_tbl := List.mem_of_getElem? (i := 391) (by decide +kernel)
theorem tw_392 : (Cond.methodLink "CourierWar$Terrain" 15 ⟨"java/lang/System", "arraycopy", "(Ljava/lang/Object;ILjava/lang/Object;II)V"⟩) ∈ lw_tbl := List.mem_of_getElem? (i := 392) (by decide +kernel)
theorem tw_393 : (Cond.static ⟨"java/lang/System", "arraycopy", "(Ljava/lang/Object;ILjava/lang/Object;II)V"⟩) ∈ lw_tbl := List.mem_of_getElem? (i := 393) (by decide +kernel)
theorem tw_394 : (Cond.native ⟨"java/lang/System", "arraycopy", "(Ljava/lang/Object;ILjava/lang/Object;II)V"⟩) ∈ lw_tbl := List.mem_of_getElem? (i := 394) (by decide +kernel)
theorem tw_395 : (Cond.methodLink "CourierWar$War" 47 ⟨"CourierWar$Troop", "copyFrom", "(LCourierWar$Troop;)V"⟩) ∈ lw_tbl := List.mem_of_getElem? (i := 395) (by decide +kernel)
theorem tw_396 : (Cond.instanceMethod ⟨"CourierWar$Troop", "copyFrom", "(LCourierWar$Troop;)V"⟩) ∈ lw_tbl := List.mem_of_getElem? (i := 396) (by decide +kernel)
theorem tw_397 : (Cond.selects "CourierWar$Troop" ⟨"CourierWar$Troop", "copyFrom", "(LCourierWar$Troop;)V"⟩ ⟨"CourierWar$Troop", "copyFrom", "(LCourierWar$Troop;)V"⟩) ∈ lw_tbl := List.mem_of_getElem? (i := 397) (by decide +kernel)
theorem tw_398 : (Cond.code ⟨"CourierWar$Troop", "copyFrom", "(LCourierWar$Troop;)V"⟩ prog_9_method_3_code 2 none) ∈ lw_tbl := List.mem_of_getElem? (i := 398) (by decide +kernel)
end
section
theorem tw_399 : (Cond.methodLink "CourierWar$War" 53 ⟨"CourierWar$Order", "copyFrom", "(LCourierWar$Order;)V"⟩) ∈ lw_tbl := List.mem_of_getElem? (i := 399) (by decide +kernel)
theorem tw_400 : (Cond.instanceMethod ⟨"CourierWar$Order", "copyFrom", "(LCourierWar$Order;)V"⟩) ∈ lw_tbl := List.mem_of_getElem? (i := 400) (by decide +kernel)
theorem tw_401 : (Cond.selects "CourierWar$Order" ⟨"CourierWar$Order", "copyFrom", "(LCourierWar$Order;)V"⟩ ⟨"CourierWar$Order", "copyFrom", "(LCourierWar$Order;)V"⟩) ∈ lw_tbl := List.mem_of_getElem? (i := 401) (by decide +kernel)
theorem tw_402 : (Cond.code ⟨"CourierWar$Order", "copyFrom", "(LCourierWar$Order;)V"⟩ prog_5_method_3_code 2 none) ∈ lw_tbl := List.mem_of_getElem? (i := 402) (by decide +kernel)
theorem tw_403 : (Cond.methodLink "CourierWar$Order" 22 ⟨"CourierWar$Order", "write", "(IIII)V"⟩) ∈ lw_tbl := List.mem_of_getElem? (i := 403) (by decide +kernel)
theorem tw_404 : (Cond.instanceMethod ⟨"CourierWar$Order", "write", "(IIII)V"⟩) ∈ lw_tbl := List.mem_of_getElem? (i := 404) (by decide +kernel)
theorem tw_405 : (Cond.selects "CourierWar$Order" ⟨"CourierWar$Order", "write", "(IIII)V"⟩ ⟨"CourierWar$Order", "write", "(IIII)V"⟩) ∈ lw_tbl := List.mem_of_getElem? (i := 405) (by decide +kernel)
theorem tw_406 : (Cond.code ⟨"CourierWar$Order", "write", "(IIII)V"⟩ prog_5_method_2_code 5 none) ∈ lw_tbl := List.mem_of_getElem? (i := 406) (by decide +kernel)
theorem tw_407 : (Cond.methodLink "CourierWar" 68 ⟨"CourierWar$Terrain", "level", "(III)I"⟩) ∈ lw_tbl := List.mem_of_getElem? (i := 407) (by decide +kernel)
theorem tw_408 : (Cond.instanceMethod ⟨"CourierWar$Terrain", "level", "(III)I"⟩) ∈ lw_tbl := List.mem_of_getElem? (i := 408) (by decide +kernel)
theorem tw_409 : (Cond.selects "CourierWar$Terrain" ⟨"CourierWar$Terrain", "level", "(III)I"⟩ ⟨"CourierWar$Terrain", "level", "(III)I"⟩) ∈ lw_tbl := List.mem_of_getElem? (i := 409) (by decide +kernel)
theorem tw_410 : (Cond.code ⟨"CourierWar$Terrain", "level", "(III)I"⟩ prog_7_method_3_code 7 (some .int)) ∈ lw_tbl := List.mem_of_getElem? (i := 410) (by decide +kernel)
theorem tw_411 : (Cond.methodLink "CourierWarLaw" 94 ⟨"CourierWar", "moveGeneral", "(II)I"⟩) ∈ lw_tbl := List.mem_of_getElem? (i := 411) (by decide +kernel)
theorem tw_412 : (Cond.instanceMethod ⟨"CourierWar", "moveGeneral", "(II)I"⟩) ∈ lw_tbl := List.mem_of_getElem? (i := 412) (by decide +kernel)
theorem tw_413 : (Cond.selects "CourierWar" ⟨"CourierWar", "moveGeneral", "(II)I"⟩ ⟨"CourierWar", "moveGeneral", "(II)I"⟩) ∈ lw_tbl := List.mem_of_getElem? (i := 413) (by decide +kernel)
theorem tw_414 : (Cond.code ⟨"CourierWar", "moveGeneral", "(II)I"⟩ prog_1_method_3_code 4 (some .int)) ∈ lw_tbl := List.mem_of_getElem? (i := 414) (by decide +kernel)
theorem tw_415 : (Cond.methodLink "CourierWar" 74 ⟨"CourierWar", "needSide", "(I)V"⟩) ∈ lw_tbl := List.mem_of_getElem? (i := 415) (by decide +kernel)
theorem tw_416 : (Cond.static ⟨"CourierWar", "needSide", "(I)V"⟩) ∈ lw_tbl := List.mem_of_getElem? (i := 416) (by decide +kernel)
theorem tw_417 : (Cond.code ⟨"CourierWar", "needSide", "(I)V"⟩ prog_1_method_25_code 1 none) ∈ lw_tbl := List.mem_of_getElem? (i := 417) (by decide +kernel)
theorem tw_418 : (Cond.stringRef "CourierWar" 267 "there is no such side") ∈ lw_tbl := List.mem_of_getElem? (i := 418) (by decide +kernel)
theorem tw_419 : (Cond.methodLink "CourierWarLaw" 58 ⟨"CourierWar", "count", "(I)I"⟩) ∈ lw_tbl := List.mem_of_getElem? (i := 419) (by decide +kernel)
theorem tw_420 : (Cond.instanceMethod ⟨"CourierWar", "count", "(I)I"⟩) ∈ lw_tbl := List.mem_of_getElem? (i := 420) (by decide +kernel)
theorem tw_421 : (Cond.selects "CourierWar" ⟨"CourierWar", "count", "(I)I"⟩ ⟨"CourierWar", "count", "(I)I"⟩) ∈ lw_tbl := List.mem_of_getElem? (i := 421) (by decide +kernel)
theorem tw_422 : (Cond.code ⟨"CourierWar", "count", "(I)I"⟩ prog_1_method_15_code 2 (some .int)) ∈ lw_tbl := List.mem_of_getElem? (i := 422) (by decide +kernel)
theorem tw_423 : (Cond.methodLink "CourierWar" 168 ⟨"CourierWar", "needFigure", "(II)V"⟩) ∈ lw_tbl := List.mem_of_getElem? (i := 423) (by decide +kernel)
theorem tw_424 : (Cond.static ⟨"CourierWar", "needFigure", "(II)V"⟩) ∈ lw_tbl := List.mem_of_getElem? (i := 424) (by decide +kernel)
theorem tw_425 : (Cond.code ⟨"CourierWar", "needFigure", "(II)V"⟩ prog_1_method_27_code 2 none) ∈ lw_tbl := List.mem_of_getElem? (i := 425) (by decide +kernel)
theorem tw_426 : (Cond.stringRef "CourierWar" 271 "there is no such property") ∈ lw_tbl := List.mem_of_getElem? (i := 426) (by decide +kernel)
theorem tw_427 : (Cond.methodLink "CourierWar" 195 ⟨"CourierWar", "countNow", "(I)I"⟩) ∈ lw_tbl := List.mem_of_getElem? (i := 427) (by decide +kernel)
theorem tw_429 : (Cond.instanceMethod ⟨"CourierWar", "countNow", "(I)I"⟩) ∈ lw_tbl := List.mem_of_getElem? (i := 429) (by decide +kernel)
theorem tw_430 : (Cond.code ⟨"CourierWar", "countNow", "(I)I"⟩ prog_1_method_31_code 2 (some .int)) ∈ lw_tbl := List.mem_of_getElem? (i := 430) (by decide +kernel)
theorem tw_431 : (Cond.methodLink "CourierWar" 214 ⟨"CourierWar$War", "figure", "(I)I"⟩) ∈ lw_tbl := List.mem_of_getElem? (i := 431) (by decide +kernel)
theorem tw_432 : (Cond.instanceMethod ⟨"CourierWar$War", "figure", "(I)I"⟩) ∈ lw_tbl := List.mem_of_getElem? (i := 432) (by decide +kernel)
theorem tw_433 : (Cond.selects "CourierWar$War" ⟨"CourierWar$War", "figure", "(I)I"⟩ ⟨"CourierWar$War", "figure", "(I)I"⟩) ∈ lw_tbl := List.mem_of_getElem? (i := 433) (by decide +kernel)
theorem tw_434 : (Cond.code ⟨"CourierWar$War", "figure", "(I)I"⟩ prog_10_method_9_code 2 (some .int)) ∈ lw_tbl := List.mem_of_getElem? (i := 434) (by decide +kernel)
theorem tw_435 : (Cond.methodLink "CourierWar$War" 116 ⟨"CourierWar$War", "troopsThatAre", "(I)I"⟩) ∈ lw_tbl := List.mem_of_getElem? (i := 435) (by decide +kernel)
theorem tw_437 : (Cond.instanceMethod ⟨"CourierWar$War", "troopsThatAre", "(I)I"⟩) ∈ lw_tbl := List.mem_of_getElem? (i := 437) (by decide +kernel)
theorem tw_438 : (Cond.code ⟨"CourierWar$War", "troopsThatAre", "(I)I"⟩ prog_10_method_13_code 4 (some .int)) ∈ lw_tbl := List.mem_of_getElem? (i := 438) (by decide +kernel)
theorem tw_439 : (Cond.methodLink "CourierWar$War" 119 ⟨"CourierWar$War", "strengthOf", "(I)I"⟩) ∈ lw_tbl := List.mem_of_getElem? (i := 439) (by decide +kernel)
theorem tw_441 : (Cond.instanceMethod ⟨"CourierWar$War", "strengthOf", "(I)I"⟩) ∈ lw_tbl := List.mem_of_getElem? (i := 441) (by decide +kernel)
theorem tw_442 : (Cond.code ⟨"CourierWar$War", "strengthOf", "(I)I"⟩ prog_10_method_14_code 4 (some .int)) ∈ lw_tbl := List.mem_of_getElem? (i := 442) (by decide +kernel)
theorem tw_443 : (Cond.methodLink "CourierWarLaw" 111 ⟨"CourierWarLaw", "cell", "([II)I"⟩) ∈ lw_tbl := List.mem_of_getElem? (i := 443) (by decide +kernel)
theorem tw_444 : (Cond.static ⟨"CourierWarLaw", "cell", "([II)I"⟩) ∈ lw_tbl := List.mem_of_getElem? (i := 444) (by decide +kernel)
theorem tw_445 : (Cond.code ⟨"CourierWarLaw", "cell", "([II)I"⟩ method_2_code 2 (some .int)) ∈ lw_tbl := List.mem_of_getElem? (i := 445) (by decide +kernel)
theorem tw_446 : (Cond.constant "CourierWarLaw" 7 1899447441) ∈ lw_tbl := List.mem_of_getElem? (i := 446) (by decide +kernel)
theorem tw_447 : (Cond.methodLink "CourierWarLaw" 64 ⟨"CourierWarLaw", "at", "(II)I"⟩) ∈ lw_tbl := List.mem_of_getElem? (i := 447) (by decide +kernel)
theorem tw_448 : (Cond.static ⟨"CourierWarLaw", "at", "(II)I"⟩) ∈ lw_tbl := List.mem_of_getElem? (i := 448) (by decide +kernel)
theorem tw_449 : (Cond.code ⟨"CourierWarLaw", "at", "(II)I"⟩ method_3_code 2 (some .int)) ∈ lw_tbl := List.mem_of_getElem? (i := 449) (by decide +kernel)
theorem tw_450 : (Cond.methodLink "CourierWarLaw" 46 ⟨"CourierWarLaw", "big", "(I)I"⟩) ∈ lw_tbl := List.mem_of_getElem? (i := 450) (by decide +kernel)
theorem tw_451 : (Cond.static ⟨"CourierWarLaw", "big", "(I)I"⟩) ∈ lw_tbl := List.mem_of_getElem? (i := 451) (by decide +kernel)
theorem tw_452 : (Cond.code ⟨"CourierWarLaw", "big", "(I)I"⟩ method_4_code 1 (some .int)) ∈ lw_tbl := List.mem_of_getElem? (i := 452) (by decide +kernel)
set_option maxRecDepth 200000 in
theorem tw_453 : (Cond.methodLink "CourierWarLaw" 107 ⟨"CourierWarLaw", "told", "(LCourierWar;II[I[I[I[I)Z"⟩) ∈ lw_tbl := List.mem_of_getElem? (i := 453) rfl
set_option maxRecDepth 200000 in
theorem tw_454 : (Cond.static ⟨"CourierWarLaw", "told", "(LCourierWar;II[I[I[I[I)Z"⟩) ∈ lw_tbl := List.mem_of_getElem? (i := 454) rfl
set_option maxRecDepth 200000 in
theorem tw_455 : (Cond.code ⟨"CourierWarLaw", "told", "(LCourierWar;II[I[I[I[I)Z"⟩ method_16_code 14 (some .boolean)) ∈ lw_tbl := List.mem_of_getElem? (i := 455) rfl
theorem tw_456 : (Cond.methodLink "CourierWarLaw" 41 ⟨"CourierWar", "troop", "(II)I"⟩) ∈ lw_tbl := List.mem_of_getElem? (i := 456) (by decide +kernel)
theorem tw_457 : (Cond.instanceMethod ⟨"CourierWar", "troop", "(II)I"⟩) ∈ lw_tbl := List.mem_of_getElem? (i := 457) (by decide +kernel)
theorem tw_458 : (Cond.selects "CourierWar" ⟨"CourierWar", "troop", "(II)I"⟩ ⟨"CourierWar", "troop", "(II)I"⟩) ∈ lw_tbl := List.mem_of_getElem? (i := 458) (by decide +kernel)
theorem tw_459 : (Cond.code ⟨"CourierWar", "troop", "(II)I"⟩ prog_1_method_13_code 3 (some .int)) ∈ lw_tbl := List.mem_of_getElem? (i := 459) (by decide +kernel)
theorem tw_460 : (Cond.methodLink "CourierWar" 99 ⟨"CourierWar", "needTroop", "(I)V"⟩) ∈ lw_tbl := List.mem_of_getElem? (i := 460) (by decide +kernel)
theorem tw_462 : (Cond.instanceMethod ⟨"CourierWar", "needTroop", "(I)V"⟩) ∈ lw_tbl := List.mem_of_getElem? (i := 462) (by decide +kernel)
theorem tw_463 : (Cond.code ⟨"CourierWar", "needTroop", "(I)V"⟩ prog_1_method_26_code 2 none) ∈ lw_tbl := List.mem_of_getElem? (i := 463) (by decide +kernel)
theorem tw_464 : (Cond.stringRef "CourierWar" 269 "there is no such troop") ∈ lw_tbl := List.mem_of_getElem? (i := 464) (by decide +kernel)
theorem tw_465 : (Cond.methodLink "CourierWar" 175 ⟨"CourierWar$War", "troopFigure", "(II)I"⟩) ∈ lw_tbl := List.mem_of_getElem? (i := 465) (by decide +kernel)
theorem tw_466 : (Cond.instanceMethod ⟨"CourierWar$War", "troopFigure", "(II)I"⟩) ∈ lw_tbl := List.mem_of_getElem? (i := 466) (by decide +kernel)
theorem tw_467 : (Cond.selects "CourierWar$War" ⟨"CourierWar$War", "troopFigure", "(II)I"⟩ ⟨"CourierWar$War", "troopFigure", "(II)I"⟩) ∈ lw_tbl := List.mem_of_getElem? (i := 467) (by decide +kernel)
theorem tw_468 : (Cond.code ⟨"CourierWar$War", "troopFigure", "(II)I"⟩ prog_10_method_8_code 4 (some .int)) ∈ lw_tbl := List.mem_of_getElem? (i := 468) (by decide +kernel)
theorem tw_469 : (Cond.methodLink "CourierWar$War" 110 ⟨"CourierWar$War", "ordersFor", "(I)I"⟩) ∈ lw_tbl := List.mem_of_getElem? (i := 469) (by decide +kernel)
theorem tw_471 : (Cond.instanceMethod ⟨"CourierWar$War", "ordersFor", "(I)I"⟩) ∈ lw_tbl := List.mem_of_getElem? (i := 471) (by decide +kernel)
theorem tw_472 : (Cond.code ⟨"CourierWar$War", "ordersFor", "(I)I"⟩ prog_10_method_12_code 4 (some .int)) ∈ lw_tbl := List.mem_of_getElem? (i := 472) (by decide +kernel)
theorem tw_473 : (Cond.methodLink "CourierWarLaw" 49 ⟨"CourierWar", "why", "(I)I"⟩) ∈ lw_tbl := List.mem_of_getElem? (i := 473) (by decide +kernel)
theorem tw_474 : (Cond.instanceMethod ⟨"CourierWar", "why", "(I)I"⟩) ∈ lw_tbl := List.mem_of_getElem? (i := 474) (by decide +kernel)
theorem tw_475 : (Cond.selects "CourierWar" ⟨"CourierWar", "why", "(I)I"⟩ ⟨"CourierWar", "why", "(I)I"⟩) ∈ lw_tbl := List.mem_of_getElem? (i := 475) (by decide +kernel)
theorem tw_476 : (Cond.code ⟨"CourierWar", "why", "(I)I"⟩ prog_1_method_18_code 2 (some .int)) ∈ lw_tbl := List.mem_of_getElem? (i := 476) (by decide +kernel)
theorem tw_477 : (Cond.methodLink "CourierWar" 102 ⟨"CourierWar$Couriers", "refusal", "(LCourierWar$War;I)I"⟩) ∈ lw_tbl := List.mem_of_getElem? (i := 477) (by decide +kernel)
theorem tw_478 : (Cond.instanceMethod ⟨"CourierWar$Couriers", "refusal", "(LCourierWar$War;I)I"⟩) ∈ lw_tbl := List.mem_of_getElem? (i := 478) (by decide +kernel)
theorem tw_479 : (Cond.selects "CourierWar$Couriers" ⟨"CourierWar$Couriers", "refusal", "(LCourierWar$War;I)I"⟩ ⟨"CourierWar$Couriers", "refusal", "(LCourierWar$War;I)I"⟩) ∈ lw_tbl := List.mem_of_getElem? (i := 479) (by decide +kernel)
theorem tw_480 : (Cond.code ⟨"CourierWar$Couriers", "refusal", "(LCourierWar$War;I)I"⟩ prog_2_method_4_code 3 (some .int)) ∈ lw_tbl := List.mem_of_getElem? (i := 480) (by decide +kernel)
theorem tw_481 : (Cond.methodLink "CourierWar$Couriers" 68 ⟨"CourierWar$Couriers", "turnsTo", "(LCourierWar$War;I)I"⟩) ∈ lw_tbl := List.mem_of_getElem? (i := 481) (by decide +kernel)
theorem tw_482 : (Cond.instanceMethod ⟨"CourierWar$Couriers", "turnsTo", "(LCourierWar$War;I)I"⟩) ∈ lw_tbl := List.mem_of_getElem? (i := 482) (by decide +kernel)
theorem tw_483 : (Cond.selects "CourierWar$Couriers" ⟨"CourierWar$Couriers", "turnsTo", "(LCourierWar$War;I)I"⟩ ⟨"CourierWar$Couriers", "turnsTo", "(LCourierWar$War;I)I"⟩) ∈ lw_tbl := List.mem_of_getElem? (i := 483) (by decide +kernel)
theorem tw_484 : (Cond.code ⟨"CourierWar$Couriers", "turnsTo", "(LCourierWar$War;I)I"⟩ prog_2_method_3_code 5 (some .int)) ∈ lw_tbl := List.mem_of_getElem? (i := 484) (by decide +kernel)
theorem tw_485 : (Cond.methodLink "CourierWar$Couriers" 51 ⟨"CourierWar$Terrain", "inSight", "(II)Z"⟩) ∈ lw_tbl := List.mem_of_getElem? (i := 485) (by decide +kernel)
theorem tw_486 : (Cond.instanceMethod ⟨"CourierWar$Terrain", "inSight", "(II)Z"⟩) ∈ lw_tbl := List.mem_of_getElem? (i := 486) (by decide +kernel)
theorem tw_487 : (Cond.selects "CourierWar$Terrain" ⟨"CourierWar$Terrain", "inSight", "(II)Z"⟩ ⟨"CourierWar$Terrain", "inSight", "(II)Z"⟩) ∈ lw_tbl := List.mem_of_getElem? (i := 487) (by decide +kernel)
theorem tw_488 : (Cond.code ⟨"CourierWar$Terrain", "inSight", "(II)Z"⟩ prog_7_method_6_code 10 (some .boolean)) ∈ lw_tbl := List.mem_of_getElem? (i := 488) (by decide +kernel)
theorem tw_489 : (Cond.methodLink "CourierWar$Terrain" 29 ⟨"java/lang/Math", "abs", "(I)I"⟩) ∈ lw_tbl := List.mem_of_getElem? (i := 489) (by decide +kernel)
theorem tw_490 : (Cond.static ⟨"java/lang/Math", "abs", "(I)I"⟩) ∈ lw_tbl := List.mem_of_getElem? (i := 490) (by decide +kernel)
theorem tw_491 : (Cond.code ⟨"java/lang/Math", "abs", "(I)I"⟩ prog_17_method_59_code 1 (some .int)) ∈ lw_tbl := List.mem_of_getElem? (i := 491) (by decide +kernel)
theorem tw_492 : (Cond.methodLink "CourierWar$Terrain" 35 ⟨"java/lang/Math", "max", "(II)I"⟩) ∈ lw_tbl := List.mem_of_getElem? (i := 492) (by decide +kernel)
theorem tw_493 : (Cond.static ⟨"java/lang/Math", "max", "(II)I"⟩) ∈ lw_tbl := List.mem_of_getElem? (i := 493) (by decide +kernel)
theorem tw_494 : (Cond.code ⟨"java/lang/Math", "max", "(II)I"⟩ prog_17_method_65_code 2 (some .int)) ∈ lw_tbl := List.mem_of_getElem? (i := 494) (by decide +kernel)
theorem tw_495 : (Cond.methodLink "CourierWar$Terrain" 38 ⟨"CourierWar$Terrain", "between", "(IIII)I"⟩) ∈ lw_tbl := List.mem_of_getElem? (i := 495) (by decide +kernel)
theorem tw_496 : (Cond.static ⟨"CourierWar$Terrain", "between", "(IIII)I"⟩) ∈ lw_tbl := List.mem_of_getElem? (i := 496) (by decide +kernel)
theorem tw_497 : (Cond.code ⟨"CourierWar$Terrain", "between", "(IIII)I"⟩ prog_7_method_7_code 4 (some .int)) ∈ lw_tbl := List.mem_of_getElem? (i := 497) (by decide +kernel)
theorem tw_498 : (Cond.methodLink "CourierWar$Couriers" 57 ⟨"CourierWar$Couriers", "stepsBetween", "(LCourierWar$Terrain;II)I"⟩) ∈ lw_tbl := List.mem_of_getElem? (i := 498) (by decide +kernel)
theorem tw_499 : (Cond.instanceMethod ⟨"CourierWar$Couriers", "stepsBetween", "(LCourierWar$Terrain;II)I"⟩) ∈ lw_tbl := List.mem_of_getElem? (i := 499) (by decide +kernel)
theorem tw_500 : (Cond.selects "CourierWar$Couriers" ⟨"CourierWar$Couriers", "stepsBetween", "(LCourierWar$Terrain;II)I"⟩ ⟨"CourierWar$Couriers", "stepsBetween", "(LCourierWar$Terrain;II)I"⟩) ∈ lw_tbl := List.mem_of_getElem? (i := 500) (by decide +kernel)
theorem tw_501 : (Cond.code ⟨"CourierWar$Couriers", "stepsBetween", "(LCourierWar$Terrain;II)I"⟩ prog_2_method_2_code 4 (some .int)) ∈ lw_tbl := List.mem_of_getElem? (i := 501) (by decide +kernel)
theorem tw_502 : (Cond.methodLink "CourierWar$Couriers" 22 ⟨"CourierWar$Paths", "spread", "(LCourierWar$Terrain;II)V"⟩) ∈ lw_tbl := List.mem_of_getElem? (i := 502) (by decide +kernel)
theorem tw_503 : (Cond.instanceMethod ⟨"CourierWar$Paths", "spread", "(LCourierWar$Terrain;II)V"⟩) ∈ lw_tbl := List.mem_of_getElem? (i := 503) (by decide +kernel)
theorem tw_504 : (Cond.selects "CourierWar$Paths" ⟨"CourierWar$Paths", "spread", "(LCourierWar$Terrain;II)V"⟩ ⟨"CourierWar$Paths", "spread", "(LCourierWar$Terrain;II)V"⟩) ∈ lw_tbl := List.mem_of_getElem? (i := 504) (by decide +kernel)
theorem tw_505 : (Cond.code ⟨"CourierWar$Paths", "spread", "(LCourierWar$Terrain;II)V"⟩ prog_6_method_3_code 9 none) ∈ lw_tbl := List.mem_of_getElem? (i := 505) (by decide +kernel)
theorem tw_506 : (Cond.methodLink "CourierWar$Paths" 21 ⟨"java/util/Arrays", "fill", "([II)V"⟩) ∈ lw_tbl := List.mem_of_getElem? (i := 506) (by decide +kernel)
theorem tw_507 : (Cond.static ⟨"java/util/Arrays", "fill", "([II)V"⟩) ∈ lw_tbl := List.mem_of_getElem? (i := 507) (by decide +kernel)
theorem tw_508 : (Cond.code ⟨"java/util/Arrays", "fill", "([II)V"⟩ prog_22_method_103_code 4 none) ∈ lw_tbl := List.mem_of_getElem? (i := 508) (by decide +kernel)
theorem tw_509 : (Cond.methodLinkNest "CourierWar$Paths" 27 ⟨"CourierWar", "neighbour", "(II)I"⟩ "CourierWar") ∈ lw_tbl := List.mem_of_getElem? (i := 509) (by decide +kernel)
theorem tw_510 : (Cond.static ⟨"CourierWar", "neighbour", "(II)I"⟩) ∈ lw_tbl := List.mem_of_getElem? (i := 510) (by decide +kernel)
theorem tw_511 : (Cond.code ⟨"CourierWar", "neighbour", "(II)I"⟩ prog_1_method_40_code 2 (some .int)) ∈ lw_tbl := List.mem_of_getElem? (i := 511) (by decide +kernel)
theorem tw_512 : (Cond.methodLink "CourierWar$Paths" 31 ⟨"CourierWar$Paths", "isOpen", "(I)Z"⟩) ∈ lw_tbl := List.mem_of_getElem? (i := 512) (by decide +kernel)
theorem tw_514 : (Cond.instanceMethod ⟨"CourierWar$Paths", "isOpen", "(I)Z"⟩) ∈ lw_tbl := List.mem_of_getElem? (i := 514) (by decide +kernel)
theorem tw_515 : (Cond.code ⟨"CourierWar$Paths", "isOpen", "(I)Z"⟩ prog_6_method_4_code 2 (some .boolean)) ∈ lw_tbl := List.mem_of_getElem? (i := 515) (by decide +kernel)
theorem tw_516 : (Cond.methodLink "CourierWar$Paths" 35 ⟨"CourierWar$Terrain", "canStep", "(II)Z"⟩) ∈ lw_tbl := List.mem_of_getElem? (i := 516) (by decide +kernel)
theorem tw_517 : (Cond.instanceMethod ⟨"CourierWar$Terrain", "canStep", "(II)Z"⟩) ∈ lw_tbl := List.mem_of_getElem? (i := 517) (by decide +kernel)
theorem tw_518 : (Cond.selects "CourierWar$Terrain" ⟨"CourierWar$Terrain", "canStep", "(II)Z"⟩ ⟨"CourierWar$Terrain", "canStep", "(II)Z"⟩) ∈ lw_tbl := List.mem_of_getElem? (i := 518) (by decide +kernel)
theorem tw_519 : (Cond.code ⟨"CourierWar$Terrain", "canStep", "(II)Z"⟩ prog_7_method_4_code 4 (some .boolean)) ∈ lw_tbl := List.mem_of_getElem? (i := 519) (by decide +kernel)
theorem tw_520 : (Cond.methodLink "CourierWar$Couriers" 61 ⟨"CourierWar$Couriers", "ridingTurns", "(I)I"⟩) ∈ lw_tbl := List.mem_of_getElem? (i := 520) (by decide +kernel)
theorem tw_521 : (Cond.static ⟨"CourierWar$Couriers", "ridingTurns", "(I)I"⟩) ∈ lw_tbl := List.mem_of_getElem? (i := 521) (by decide +kernel)
theorem tw_522 : (Cond.code ⟨"CourierWar$Couriers", "ridingTurns", "(I)I"⟩ prog_2_method_7_code 1 (some .int)) ∈ lw_tbl := List.mem_of_getElem? (i := 522) (by decide +kernel)
theorem tw_523 : (Cond.methodLink "CourierWar$Couriers" 88 ⟨"java/lang/Math", "max", "(II)I"⟩) ∈ lw_tbl := List.mem_of_getElem? (i := 523) (by decide +kernel)
theorem tw_524 : (Cond.methodLink "CourierWarLaw" 52 ⟨"CourierWarLaw", "why", "(I[I[I[I)I"⟩) ∈ lw_tbl := List.mem_of_getElem? (i := 524) (by decide +kernel)
theorem tw_525 : (Cond.static ⟨"CourierWarLaw", "why", "(I[I[I[I)I"⟩) ∈ lw_tbl := List.mem_of_getElem? (i := 525) (by decide +kernel)
theorem tw_526 : (Cond.code ⟨"CourierWarLaw", "why", "(I[I[I[I)I"⟩ method_13_code 4 (some .int)) ∈ lw_tbl := List.mem_of_getElem? (i := 526) (by decide +kernel)
theorem tw_527 : (Cond.methodLink "CourierWarLaw" 37 ⟨"CourierWarLaw", "time", "(II[I[I[I)I"⟩) ∈ lw_tbl := List.mem_of_getElem? (i := 527) (by decide +kernel)
theorem tw_528 : (Cond.static ⟨"CourierWarLaw", "time", "(II[I[I[I)I"⟩) ∈ lw_tbl := List.mem_of_getElem? (i := 528) (by decide +kernel)
theorem tw_529 : (Cond.code ⟨"CourierWarLaw", "time", "(II[I[I[I)I"⟩ method_12_code 7 (some .int)) ∈ lw_tbl := List.mem_of_getElem? (i := 529) (by decide +kernel)
theorem tw_530 : (Cond.methodLink "CourierWarLaw" 29 ⟨"CourierWarLaw", "sees", "(II[I)Z"⟩) ∈ lw_tbl := List.mem_of_getElem? (i := 530) (by decide +kernel)
theorem tw_531 : (Cond.static ⟨"CourierWarLaw", "sees", "(II[I)Z"⟩) ∈ lw_tbl := List.mem_of_getElem? (i := 531) (by decide +kernel)
theorem tw_532 : (Cond.code ⟨"CourierWarLaw", "sees", "(II[I)Z"⟩ method_10_code 10 (some .boolean)) ∈ lw_tbl := List.mem_of_getElem? (i := 532) (by decide +kernel)
theorem tw_533 : (Cond.methodLink "CourierWarLaw" 14 ⟨"CourierWarLaw", "abs", "(I)I"⟩) ∈ lw_tbl := List.mem_of_getElem? (i := 533) (by decide +kernel)
theorem tw_534 : (Cond.static ⟨"CourierWarLaw", "abs", "(I)I"⟩) ∈ lw_tbl := List.mem_of_getElem? (i := 534) (by decide +kernel)
theorem tw_535 : (Cond.code ⟨"CourierWarLaw", "abs", "(I)I"⟩ method_5_code 1 (some .int)) ∈ lw_tbl := List.mem_of_getElem? (i := 535) (by decide +kernel)
theorem tw_536 : (Cond.methodLink "CourierWarLaw" 18 ⟨"CourierWarLaw", "floor", "(II)I"⟩) ∈ lw_tbl := List.mem_of_getElem? (i := 536) (by decide +kernel)
theorem tw_537 : (Cond.static ⟨"CourierWarLaw", "floor", "(II)I"⟩) ∈ lw_tbl := List.mem_of_getElem? (i := 537) (by decide +kernel)
theorem tw_538 : (Cond.code ⟨"CourierWarLaw", "floor", "(II)I"⟩ method_9_code 3 (some .int)) ∈ lw_tbl := List.mem_of_getElem? (i := 538) (by decide +kernel)
theorem tw_539 : (Cond.methodLink "CourierWarLaw" 33 ⟨"CourierWarLaw", "spread", "(II[I[I[I[I)V"⟩) ∈ lw_tbl := List.mem_of_getElem? (i := 539) (by decide +kernel)
theorem tw_540 : (Cond.static ⟨"CourierWarLaw", "spread", "(II[I[I[I[I)V"⟩) ∈ lw_tbl := List.mem_of_getElem? (i := 540) (by decide +kernel)
theorem tw_541 : (Cond.code ⟨"CourierWarLaw", "spread", "(II[I[I[I[I)V"⟩ method_11_code 10 none) ∈ lw_tbl := List.mem_of_getElem? (i := 541) (by decide +kernel)
theorem tw_542 : (Cond.methodLink "CourierWarLaw" 21 ⟨"CourierWarLaw", "step", "(II[I)I"⟩) ∈ lw_tbl := List.mem_of_getElem? (i := 542) (by decide +kernel)
theorem tw_543 : (Cond.static ⟨"CourierWarLaw", "step", "(II[I)I"⟩) ∈ lw_tbl := List.mem_of_getElem? (i := 543) (by decide +kernel)
theorem tw_544 : (Cond.code ⟨"CourierWarLaw", "step", "(II[I)I"⟩ method_7_code 4 (some .int)) ∈ lw_tbl := List.mem_of_getElem? (i := 544) (by decide +kernel)
theorem tw_545 : (Cond.methodLink "CourierWarLaw" 8 ⟨"CourierWarLaw", "beside", "(II)I"⟩) ∈ lw_tbl := List.mem_of_getElem? (i := 545) (by decide +kernel)
theorem tw_546 : (Cond.static ⟨"CourierWarLaw", "beside", "(II)I"⟩) ∈ lw_tbl := List.mem_of_getElem? (i := 546) (by decide +kernel)
theorem tw_547 : (Cond.code ⟨"CourierWarLaw", "beside", "(II)I"⟩ method_6_code 2 (some .int)) ∈ lw_tbl := List.mem_of_getElem? (i := 547) (by decide +kernel)
theorem tw_548 : (Cond.methodLink "CourierWarLaw" 25 ⟨"CourierWarLaw", "who", "(I[I[I)I"⟩) ∈ lw_tbl := List.mem_of_getElem? (i := 548) (by decide +kernel)
theorem tw_549 : (Cond.static ⟨"CourierWarLaw", "who", "(I[I[I)I"⟩) ∈ lw_tbl := List.mem_of_getElem? (i := 549) (by decide +kernel)
theorem tw_550 : (Cond.code ⟨"CourierWarLaw", "who", "(I[I[I)I"⟩ method_8_code 4 (some .int)) ∈ lw_tbl := List.mem_of_getElem? (i := 550) (by decide +kernel)
theorem tw_551 : (Cond.methodLink "CourierWarLaw" 55 ⟨"CourierWar", "underWay", "(II)I"⟩) ∈ lw_tbl := List.mem_of_getElem? (i := 551) (by decide +kernel)
theorem tw_552 : (Cond.instanceMethod ⟨"CourierWar", "underWay", "(II)I"⟩) ∈ lw_tbl := List.mem_of_getElem? (i := 552) (by decide +kernel)
theorem tw_553 : (Cond.selects "CourierWar" ⟨"CourierWar", "underWay", "(II)I"⟩ ⟨"CourierWar", "underWay", "(II)I"⟩) ∈ lw_tbl := List.mem_of_getElem? (i := 553) (by decide +kernel)
theorem tw_554 : (Cond.code ⟨"CourierWar", "underWay", "(II)I"⟩ prog_1_method_14_code 3 (some .int)) ∈ lw_tbl := List.mem_of_getElem? (i := 554) (by decide +kernel)
theorem tw_555 : (Cond.stringRef "CourierWar" 183 "there is no such order") ∈ lw_tbl := List.mem_of_getElem? (i := 555) (by decide +kernel)
theorem tw_556 : (Cond.methodLink "CourierWar" 190 ⟨"CourierWar$Order", "figure", "(I)I"⟩) ∈ lw_tbl := List.mem_of_getElem? (i := 556) (by decide +kernel)
theorem tw_557 : (Cond.instanceMethod ⟨"CourierWar$Order", "figure", "(I)I"⟩) ∈ lw_tbl := List.mem_of_getElem? (i := 557) (by decide +kernel)
theorem tw_558 : (Cond.selects "CourierWar$Order" ⟨"CourierWar$Order", "figure", "(I)I"⟩ ⟨"CourierWar$Order", "figure", "(I)I"⟩) ∈ lw_tbl := List.mem_of_getElem? (i := 558) (by decide +kernel)
theorem tw_559 : (Cond.code ⟨"CourierWar$Order", "figure", "(I)I"⟩ prog_5_method_4_code 2 (some .int)) ∈ lw_tbl := List.mem_of_getElem? (i := 559) (by decide +kernel)
theorem tw_560 : (Cond.methodLink "CourierWarLaw" 61 ⟨"CourierWarLaw", "counted", "(I[I[I)I"⟩) ∈ lw_tbl := List.mem_of_getElem? (i := 560) (by decide +kernel)
theorem tw_561 : (Cond.static ⟨"CourierWarLaw", "counted", "(I[I[I)I"⟩) ∈ lw_tbl := List.mem_of_getElem? (i := 561) (by decide +kernel)
theorem tw_562 : (Cond.code ⟨"CourierWarLaw", "counted", "(I[I[I)I"⟩ method_15_code 5 (some .int)) ∈ lw_tbl := List.mem_of_getElem? (i := 562) (by decide +kernel)
theorem tw_563 : (Cond.methodLink "CourierWarLaw" 67 ⟨"CourierWar", "sees", "(II)Z"⟩) ∈ lw_tbl := List.mem_of_getElem? (i := 563) (by decide +kernel)
theorem tw_564 : (Cond.instanceMethod ⟨"CourierWar", "sees", "(II)Z"⟩) ∈ lw_tbl := List.mem_of_getElem? (i := 564) (by decide +kernel)
theorem tw_565 : (Cond.selects "CourierWar" ⟨"CourierWar", "sees", "(II)Z"⟩ ⟨"CourierWar", "sees", "(II)Z"⟩) ∈ lw_tbl := List.mem_of_getElem? (i := 565) (by decide +kernel)
theorem tw_566 : (Cond.code ⟨"CourierWar", "sees", "(II)Z"⟩ prog_1_method_16_code 3 (some .boolean)) ∈ lw_tbl := List.mem_of_getElem? (i := 566) (by decide +kernel)
theorem tw_567 : (Cond.methodLink "CourierWar" 198 ⟨"CourierWar$Terrain", "inSight", "(II)Z"⟩) ∈ lw_tbl := List.mem_of_getElem? (i := 567) (by decide +kernel)
theorem tw_568 : (Cond.methodLink "CourierWarLaw" 70 ⟨"CourierWar", "distance", "(II)I"⟩) ∈ lw_tbl := List.mem_of_getElem? (i := 568) (by decide +kernel)
theorem tw_569 : (Cond.instanceMethod ⟨"CourierWar", "distance", "(II)I"⟩) ∈ lw_tbl := List.mem_of_getElem? (i := 569) (by decide +kernel)
theorem tw_570 : (Cond.selects "CourierWar" ⟨"CourierWar", "distance", "(II)I"⟩ ⟨"CourierWar", "distance", "(II)I"⟩) ∈ lw_tbl := List.mem_of_getElem? (i := 570) (by decide +kernel)
theorem tw_571 : (Cond.code ⟨"CourierWar", "distance", "(II)I"⟩ prog_1_method_17_code 3 (some .int)) ∈ lw_tbl := List.mem_of_getElem? (i := 571) (by decide +kernel)
theorem tw_572 : (Cond.methodLink "CourierWar" 202 ⟨"CourierWar$Couriers", "stepsBetween", "(LCourierWar$Terrain;II)I"⟩) ∈ lw_tbl := List.mem_of_getElem? (i := 572) (by decide +kernel)
theorem tw_573 : (Cond.methodLink "CourierWarLaw" 73 ⟨"CourierWar", "cell", "(II)I"⟩) ∈ lw_tbl := List.mem_of_getElem? (i := 573) (by decide +kernel)
theorem tw_574 : (Cond.instanceMethod ⟨"CourierWar", "cell", "(II)I"⟩) ∈ lw_tbl := List.mem_of_getElem? (i := 574) (by decide +kernel)
theorem tw_575 : (Cond.selects "CourierWar" ⟨"CourierWar", "cell", "(II)I"⟩ ⟨"CourierWar", "cell", "(II)I"⟩) ∈ lw_tbl := List.mem_of_getElem? (i := 575) (by decide +kernel)
theorem tw_576 : (Cond.code ⟨"CourierWar", "cell", "(II)I"⟩ prog_1_method_12_code 3 (some .int)) ∈ lw_tbl := List.mem_of_getElem? (i := 576) (by decide +kernel)
theorem tw_577 : (Cond.methodLink "CourierWar" 172 ⟨"CourierWar$War", "cellFigure", "(II)I"⟩) ∈ lw_tbl := List.mem_of_getElem? (i := 577) (by decide +kernel)
theorem tw_578 : (Cond.instanceMethod ⟨"CourierWar$War", "cellFigure", "(II)I"⟩) ∈ lw_tbl := List.mem_of_getElem? (i := 578) (by decide +kernel)
theorem tw_579 : (Cond.selects "CourierWar$War" ⟨"CourierWar$War", "cellFigure", "(II)I"⟩ ⟨"CourierWar$War", "cellFigure", "(II)I"⟩) ∈ lw_tbl := List.mem_of_getElem? (i := 579) (by decide +kernel)
theorem tw_580 : (Cond.code ⟨"CourierWar$War", "cellFigure", "(II)I"⟩ prog_10_method_7_code 3 (some .int)) ∈ lw_tbl := List.mem_of_getElem? (i := 580) (by decide +kernel)
theorem tw_581 : (Cond.methodLink "CourierWar$War" 85 ⟨"CourierWar$War", "troopIn", "(I)I"⟩) ∈ lw_tbl := List.mem_of_getElem? (i := 581) (by decide +kernel)
theorem tw_582 : (Cond.instanceMethod ⟨"CourierWar$War", "troopIn", "(I)I"⟩) ∈ lw_tbl := List.mem_of_getElem? (i := 582) (by decide +kernel)
theorem tw_583 : (Cond.selects "CourierWar$War" ⟨"CourierWar$War", "troopIn", "(I)I"⟩ ⟨"CourierWar$War", "troopIn", "(I)I"⟩) ∈ lw_tbl := List.mem_of_getElem? (i := 583) (by decide +kernel)
theorem tw_584 : (Cond.code ⟨"CourierWar$War", "troopIn", "(I)I"⟩ prog_10_method_6_code 3 (some .int)) ∈ lw_tbl := List.mem_of_getElem? (i := 584) (by decide +kernel)
theorem tw_585 : (Cond.methodLink "CourierWar$War" 89 ⟨"CourierWar$Terrain", "exits", "(I)I"⟩) ∈ lw_tbl := List.mem_of_getElem? (i := 585) (by decide +kernel)
theorem tw_586 : (Cond.instanceMethod ⟨"CourierWar$Terrain", "exits", "(I)I"⟩) ∈ lw_tbl := List.mem_of_getElem? (i := 586) (by decide +kernel)
theorem tw_587 : (Cond.selects "CourierWar$Terrain" ⟨"CourierWar$Terrain", "exits", "(I)I"⟩ ⟨"CourierWar$Terrain", "exits", "(I)I"⟩) ∈ lw_tbl := List.mem_of_getElem? (i := 587) (by decide +kernel)
theorem tw_588 : (Cond.code ⟨"CourierWar$Terrain", "exits", "(I)I"⟩ prog_7_method_5_code 5 (some .int)) ∈ lw_tbl := List.mem_of_getElem? (i := 588) (by decide +kernel)
theorem tw_589 : (Cond.methodLinkNest "CourierWar$Terrain" 21 ⟨"CourierWar", "neighbour", "(II)I"⟩ "CourierWar") ∈ lw_tbl := List.mem_of_getElem? (i := 589) (by decide +kernel)
theorem tw_590 : (Cond.methodLink "CourierWar$Terrain" 25 ⟨"CourierWar$Terrain", "canStep", "(II)Z"⟩) ∈ lw_tbl := List.mem_of_getElem? (i := 590) (by decide +kernel)
theorem tw_591 : (Cond.methodLink "CourierWar$War" 92 ⟨"CourierWar$Terrain", "cellsInSight", "(I)I"⟩) ∈ lw_tbl := List.mem_of_getElem? (i := 591) (by decide +kernel)
theorem tw_592 : (Cond.instanceMethod ⟨"CourierWar$Terrain", "cellsInSight", "(I)I"⟩) ∈ lw_tbl := List.mem_of_getElem? (i := 592) (by decide +kernel)
theorem tw_593 : (Cond.selects "CourierWar$Terrain" ⟨"CourierWar$Terrain", "cellsInSight", "(I)I"⟩ ⟨"CourierWar$Terrain", "cellsInSight", "(I)I"⟩) ∈ lw_tbl := List.mem_of_getElem? (i := 593) (by decide +kernel)
theorem tw_594 : (Cond.code ⟨"CourierWar$Terrain", "cellsInSight", "(I)I"⟩ prog_7_method_8_code 4 (some .int)) ∈ lw_tbl := List.mem_of_getElem? (i := 594) (by decide +kernel)
theorem tw_595 : (Cond.methodLink "CourierWar$Terrain" 42 ⟨"CourierWar$Terrain", "inSight", "(II)Z"⟩) ∈ lw_tbl := List.mem_of_getElem? (i := 595) (by decide +kernel)
theorem tw_596 : (Cond.methodLink "CourierWarLaw" 76 ⟨"CourierWar", "strengthLeft", "()D"⟩) ∈ lw_tbl := List.mem_of_getElem? (i := 596) (by decide +kernel)
theorem tw_597 : (Cond.instanceMethod ⟨"CourierWar", "strengthLeft", "()D"⟩) ∈ lw_tbl := List.mem_of_getElem? (i := 597) (by decide +kernel)
theorem tw_598 : (Cond.selects "CourierWar" ⟨"CourierWar", "strengthLeft", "()D"⟩ ⟨"CourierWar", "strengthLeft", "()D"⟩) ∈ lw_tbl := List.mem_of_getElem? (i := 598) (by decide +kernel)
theorem tw_599 : (Cond.code ⟨"CourierWar", "strengthLeft", "()D"⟩ prog_1_method_22_code 1 (some .double)) ∈ lw_tbl := List.mem_of_getElem? (i := 599) (by decide +kernel)
theorem tw_600 : (Cond.methodLink "CourierWar" 229 ⟨"CourierWar$War", "shareLeft", "()D"⟩) ∈ lw_tbl := List.mem_of_getElem? (i := 600) (by decide +kernel)
theorem tw_601 : (Cond.instanceMethod ⟨"CourierWar$War", "shareLeft", "()D"⟩) ∈ lw_tbl := List.mem_of_getElem? (i := 601) (by decide +kernel)
theorem tw_602 : (Cond.selects "CourierWar$War" ⟨"CourierWar$War", "shareLeft", "()D"⟩ ⟨"CourierWar$War", "shareLeft", "()D"⟩) ∈ lw_tbl := List.mem_of_getElem? (i := 602) (by decide +kernel)
theorem tw_603 : (Cond.code ⟨"CourierWar$War", "shareLeft", "()D"⟩ prog_10_method_11_code 3 (some .double)) ∈ lw_tbl := List.mem_of_getElem? (i := 603) (by decide +kernel)
theorem tw_604 : (Cond.methodLink "CourierWarLaw" 119 ⟨"CourierWarLaw", "ahead", "(LCourierWar;II[I[I[I[I)Z"⟩) ∈ lw_tbl := List.mem_of_getElem? (i := 604) (by decide +kernel)
theorem tw_605 : (Cond.static ⟨"CourierWarLaw", "ahead", "(LCourierWar;II[I[I[I[I)Z"⟩) ∈ lw_tbl := List.mem_of_getElem? (i := 605) (by decide +kernel)
theorem tw_606 : (Cond.code ⟨"CourierWarLaw", "ahead", "(LCourierWar;II[I[I[I[I)Z"⟩ method_17_code 14 (some .boolean)) ∈ lw_tbl := List.mem_of_getElem? (i := 606) (by decide +kernel)
theorem tw_607 : (Cond.methodLink "CourierWarLaw" 80 ⟨"CourierWarLaw", "turn", "([I[I[I[I)V"⟩) ∈ lw_tbl := List.mem_of_getElem? (i := 607) (by decide +kernel)
theorem tw_608 : (Cond.static ⟨"CourierWarLaw", "turn", "([I[I[I[I)V"⟩) ∈ lw_tbl := List.mem_of_getElem? (i := 608) (by decide +kernel)
set_option maxRecDepth 200000 in
theorem tw_609 : (Cond.code ⟨"CourierWarLaw", "turn", "([I[I[I[I)V"⟩ method_14_code 11 none) ∈ lw_tbl := List.mem_of_getElem? (i := 609) rfl
theorem tw_610 : (Cond.methodLink "CourierWarLaw" 84 ⟨"CourierWar", "ifPassed", "(II)I"⟩) ∈ lw_tbl := List.mem_of_getElem? (i := 610) (by decide +kernel)
theorem tw_611 : (Cond.instanceMethod ⟨"CourierWar", "ifPassed", "(II)I"⟩) ∈ lw_tbl := List.mem_of_getElem? (i := 611) (by decide +kernel)
theorem tw_612 : (Cond.selects "CourierWar" ⟨"CourierWar", "ifPassed", "(II)I"⟩ ⟨"CourierWar", "ifPassed", "(II)I"⟩) ∈ lw_tbl := List.mem_of_getElem? (i := 612) (by decide +kernel)
theorem tw_613 : (Cond.code ⟨"CourierWar", "ifPassed", "(II)I"⟩ prog_1_method_20_code 3 (some .int)) ∈ lw_tbl := List.mem_of_getElem? (i := 613) (by decide +kernel)
theorem tw_614 : (Cond.methodLink "CourierWar" 112 ⟨"CourierWar", "needTurns", "(I)V"⟩) ∈ lw_tbl := List.mem_of_getElem? (i := 614) (by decide +kernel)
theorem tw_615 : (Cond.static ⟨"CourierWar", "needTurns", "(I)V"⟩) ∈ lw_tbl := List.mem_of_getElem? (i := 615) (by decide +kernel)
theorem tw_616 : (Cond.code ⟨"CourierWar", "needTurns", "(I)V"⟩ prog_1_method_28_code 1 none) ∈ lw_tbl := List.mem_of_getElem? (i := 616) (by decide +kernel)
theorem tw_617 : (Cond.stringRef "CourierWar" 273 "1 to 50 turns can pass") ∈ lw_tbl := List.mem_of_getElem? (i := 617) (by decide +kernel)
theorem tw_618 : (Cond.stringRef "CourierWar" 209 "that number can't be looked ahead") ∈ lw_tbl := List.mem_of_getElem? (i := 618) (by decide +kernel)
theorem tw_619 : (Cond.methodLink "CourierWar" 211 ⟨"CourierWar$War", "copyFrom", "(LCourierWar$War;)V"⟩) ∈ lw_tbl := List.mem_of_getElem? (i := 619) (by decide +kernel)
theorem tw_620 : (Cond.methodLink "CourierWar" 124 ⟨"CourierWar$Marshal", "play", "(LCourierWar$War;I)V"⟩) ∈ lw_tbl := List.mem_of_getElem? (i := 620) (by decide +kernel)
theorem tw_621 : (Cond.instanceMethod ⟨"CourierWar$Marshal", "play", "(LCourierWar$War;I)V"⟩) ∈ lw_tbl := List.mem_of_getElem? (i := 621) (by decide +kernel)
theorem tw_622 : (Cond.selects "CourierWar$Marshal" ⟨"CourierWar$Marshal", "play", "(LCourierWar$War;I)V"⟩ ⟨"CourierWar$Marshal", "play", "(LCourierWar$War;I)V"⟩) ∈ lw_tbl := List.mem_of_getElem? (i := 622) (by decide +kernel)
theorem tw_623 : (Cond.code ⟨"CourierWar$Marshal", "play", "(LCourierWar$War;I)V"⟩ prog_4_method_2_code 5 none) ∈ lw_tbl := List.mem_of_getElem? (i := 623) (by decide +kernel)
theorem tw_624 : (Cond.methodLink "CourierWar$Marshal" 24 ⟨"CourierWar$Marshal", "bringOrders", "(LCourierWar$War;)V"⟩) ∈ lw_tbl := List.mem_of_getElem? (i := 624) (by decide +kernel)
theorem tw_625 : (Cond.static ⟨"CourierWar$Marshal", "bringOrders", "(LCourierWar$War;)V"⟩) ∈ lw_tbl := List.mem_of_getElem? (i := 625) (by decide +kernel)
theorem tw_626 : (Cond.code ⟨"CourierWar$Marshal", "bringOrders", "(LCourierWar$War;)V"⟩ prog_4_method_3_code 4 none) ∈ lw_tbl := List.mem_of_getElem? (i := 626) (by decide +kernel)
theorem tw_627 : (Cond.methodLink "CourierWar$Marshal" 75 ⟨"CourierWar$War", "dropFirstOrders", "(I)V"⟩) ∈ lw_tbl := List.mem_of_getElem? (i := 627) (by decide +kernel)
theorem tw_628 : (Cond.instanceMethod ⟨"CourierWar$War", "dropFirstOrders", "(I)V"⟩) ∈ lw_tbl := List.mem_of_getElem? (i := 628) (by decide +kernel)
theorem tw_629 : (Cond.selects "CourierWar$War" ⟨"CourierWar$War", "dropFirstOrders", "(I)V"⟩ ⟨"CourierWar$War", "dropFirstOrders", "(I)V"⟩) ∈ lw_tbl := List.mem_of_getElem? (i := 629) (by decide +kernel)
theorem tw_630 : (Cond.code ⟨"CourierWar$War", "dropFirstOrders", "(I)V"⟩ prog_10_method_5_code 3 none) ∈ lw_tbl := List.mem_of_getElem? (i := 630) (by decide +kernel)
theorem tw_631 : (Cond.methodLink "CourierWar$Marshal" 28 ⟨"CourierWar$Marshal", "march", "(LCourierWar$War;)V"⟩) ∈ lw_tbl := List.mem_of_getElem? (i := 631) (by decide +kernel)
theorem tw_633 : (Cond.instanceMethod ⟨"CourierWar$Marshal", "march", "(LCourierWar$War;)V"⟩) ∈ lw_tbl := List.mem_of_getElem? (i := 633) (by decide +kernel)
theorem tw_634 : (Cond.code ⟨"CourierWar$Marshal", "march", "(LCourierWar$War;)V"⟩ prog_4_method_4_code 4 none) ∈ lw_tbl := List.mem_of_getElem? (i := 634) (by decide +kernel)
theorem tw_635 : (Cond.methodLink "CourierWar$Marshal" 82 ⟨"CourierWar$Marshal", "stepToGoal", "(LCourierWar$War;I)V"⟩) ∈ lw_tbl := List.mem_of_getElem? (i := 635) (by decide +kernel)
theorem tw_637 : (Cond.instanceMethod ⟨"CourierWar$Marshal", "stepToGoal", "(LCourierWar$War;I)V"⟩) ∈ lw_tbl := List.mem_of_getElem? (i := 637) (by decide +kernel)
theorem tw_638 : (Cond.code ⟨"CourierWar$Marshal", "stepToGoal", "(LCourierWar$War;I)V"⟩ prog_4_method_5_code 5 none) ∈ lw_tbl := List.mem_of_getElem? (i := 638) (by decide +kernel)
theorem tw_639 : (Cond.methodLink "CourierWar$Marshal" 89 ⟨"CourierWar$Paths", "openAll", "()V"⟩) ∈ lw_tbl := List.mem_of_getElem? (i := 639) (by decide +kernel)
theorem tw_640 : (Cond.instanceMethod ⟨"CourierWar$Paths", "openAll", "()V"⟩) ∈ lw_tbl := List.mem_of_getElem? (i := 640) (by decide +kernel)
theorem tw_641 : (Cond.selects "CourierWar$Paths" ⟨"CourierWar$Paths", "openAll", "()V"⟩ ⟨"CourierWar$Paths", "openAll", "()V"⟩) ∈ lw_tbl := List.mem_of_getElem? (i := 641) (by decide +kernel)
theorem tw_642 : (Cond.code ⟨"CourierWar$Paths", "openAll", "()V"⟩ prog_6_method_2_code 1 none) ∈ lw_tbl := List.mem_of_getElem? (i := 642) (by decide +kernel)
theorem tw_643 : (Cond.methodLink "CourierWar$Marshal" 100 ⟨"CourierWar$Paths", "spread", "(LCourierWar$Terrain;II)V"⟩) ∈ lw_tbl := List.mem_of_getElem? (i := 643) (by decide +kernel)
theorem tw_644 : (Cond.methodLink "CourierWar$Marshal" 104 ⟨"CourierWar$Paths", "freeStepNearer", "(LCourierWar$Terrain;I)I"⟩) ∈ lw_tbl := List.mem_of_getElem? (i := 644) (by decide +kernel)
theorem tw_645 : (Cond.instanceMethod ⟨"CourierWar$Paths", "freeStepNearer", "(LCourierWar$Terrain;I)I"⟩) ∈ lw_tbl := List.mem_of_getElem? (i := 645) (by decide +kernel)
theorem tw_646 : (Cond.selects "CourierWar$Paths" ⟨"CourierWar$Paths", "freeStepNearer", "(LCourierWar$Terrain;I)I"⟩ ⟨"CourierWar$Paths", "freeStepNearer", "(LCourierWar$Terrain;I)I"⟩) ∈ lw_tbl := List.mem_of_getElem? (i := 646) (by decide +kernel)
theorem tw_647 : (Cond.code ⟨"CourierWar$Paths", "freeStepNearer", "(LCourierWar$Terrain;I)I"⟩ prog_6_method_5_code 5 (some .int)) ∈ lw_tbl := List.mem_of_getElem? (i := 647) (by decide +kernel)
theorem tw_648 : (Cond.methodLink "CourierWar$Marshal" 86 ⟨"CourierWar$Marshal", "stepBack", "(LCourierWar$War;LCourierWar$Troop;)V"⟩) ∈ lw_tbl := List.mem_of_getElem? (i := 648) (by decide +kernel)
theorem tw_649 : (Cond.static ⟨"CourierWar$Marshal", "stepBack", "(LCourierWar$War;LCourierWar$Troop;)V"⟩) ∈ lw_tbl := List.mem_of_getElem? (i := 649) (by decide +kernel)
theorem tw_650 : (Cond.code ⟨"CourierWar$Marshal", "stepBack", "(LCourierWar$War;LCourierWar$Troop;)V"⟩ prog_4_method_6_code 3 none) ∈ lw_tbl := List.mem_of_getElem? (i := 650) (by decide +kernel)
theorem tw_651 : (Cond.methodLinkNest "CourierWar$Marshal" 111 ⟨"CourierWar", "neighbour", "(II)I"⟩ "CourierWar") ∈ lw_tbl := List.mem_of_getElem? (i := 651) (by decide +kernel)
theorem tw_652 : (Cond.methodLink "CourierWar$Marshal" 115 ⟨"CourierWar$Terrain", "canStep", "(II)Z"⟩) ∈ lw_tbl := List.mem_of_getElem? (i := 652) (by decide +kernel)
theorem tw_653 : (Cond.methodLink "CourierWar$Marshal" 121 ⟨"CourierWar$War", "troopIn", "(I)I"⟩) ∈ lw_tbl := List.mem_of_getElem? (i := 653) (by decide +kernel)
theorem tw_654 : (Cond.methodLink "CourierWar$Marshal" 31 ⟨"CourierWar$Marshal", "fight", "(LCourierWar$War;)V"⟩) ∈ lw_tbl := List.mem_of_getElem? (i := 654) (by decide +kernel)
theorem tw_655 : (Cond.static ⟨"CourierWar$Marshal", "fight", "(LCourierWar$War;)V"⟩) ∈ lw_tbl := List.mem_of_getElem? (i := 655) (by decide +kernel)
theorem tw_656 : (Cond.code ⟨"CourierWar$Marshal", "fight", "(LCourierWar$War;)V"⟩ prog_4_method_7_code 3 none) ∈ lw_tbl := List.mem_of_getElem? (i := 656) (by decide +kernel)
theorem tw_657 : (Cond.methodLink "CourierWar$Marshal" 125 ⟨"CourierWar$Marshal", "lossOf", "(LCourierWar$War;LCourierWar$Troop;)I"⟩) ∈ lw_tbl := List.mem_of_getElem? (i := 657) (by decide +kernel)
theorem tw_658 : (Cond.static ⟨"CourierWar$Marshal", "lossOf", "(LCourierWar$War;LCourierWar$Troop;)I"⟩) ∈ lw_tbl := List.mem_of_getElem? (i := 658) (by decide +kernel)
theorem tw_659 : (Cond.code ⟨"CourierWar$Marshal", "lossOf", "(LCourierWar$War;LCourierWar$Troop;)I"⟩ prog_4_method_8_code 6 (some .int)) ∈ lw_tbl := List.mem_of_getElem? (i := 659) (by decide +kernel)
theorem tw_660 : (Cond.methodLink "CourierWar$Marshal" 138 ⟨"CourierWar$Troop", "isEnemyOf", "(LCourierWar$Troop;)Z"⟩) ∈ lw_tbl := List.mem_of_getElem? (i := 660) (by decide +kernel)
theorem tw_661 : (Cond.instanceMethod ⟨"CourierWar$Troop", "isEnemyOf", "(LCourierWar$Troop;)Z"⟩) ∈ lw_tbl := List.mem_of_getElem? (i := 661) (by decide +kernel)
theorem tw_662 : (Cond.selects "CourierWar$Troop" ⟨"CourierWar$Troop", "isEnemyOf", "(LCourierWar$Troop;)Z"⟩ ⟨"CourierWar$Troop", "isEnemyOf", "(LCourierWar$Troop;)Z"⟩) ∈ lw_tbl := List.mem_of_getElem? (i := 662) (by decide +kernel)
theorem tw_663 : (Cond.code ⟨"CourierWar$Troop", "isEnemyOf", "(LCourierWar$Troop;)Z"⟩ prog_9_method_4_code 2 (some .boolean)) ∈ lw_tbl := List.mem_of_getElem? (i := 663) (by decide +kernel)
theorem tw_664 : (Cond.methodLink "CourierWar$Marshal" 145 ⟨"java/lang/Math", "min", "(II)I"⟩) ∈ lw_tbl := List.mem_of_getElem? (i := 664) (by decide +kernel)
theorem tw_665 : (Cond.static ⟨"java/lang/Math", "min", "(II)I"⟩) ∈ lw_tbl := List.mem_of_getElem? (i := 665) (by decide +kernel)
theorem tw_666 : (Cond.code ⟨"java/lang/Math", "min", "(II)I"⟩ prog_17_method_69_code 2 (some .int)) ∈ lw_tbl := List.mem_of_getElem? (i := 666) (by decide +kernel)
theorem tw_667 : (Cond.methodLink "CourierWar$Marshal" 41 ⟨"CourierWar$Marshal", "steadyOrRout", "(LCourierWar$War;LCourierWar$Troop;)V"⟩) ∈ lw_tbl := List.mem_of_getElem? (i := 667) (by decide +kernel)
theorem tw_668 : (Cond.static ⟨"CourierWar$Marshal", "steadyOrRout", "(LCourierWar$War;LCourierWar$Troop;)V"⟩) ∈ lw_tbl := List.mem_of_getElem? (i := 668) (by decide +kernel)
theorem tw_669 : (Cond.code ⟨"CourierWar$Marshal", "steadyOrRout", "(LCourierWar$War;LCourierWar$Troop;)V"⟩ prog_4_method_9_code 2 none) ∈ lw_tbl := List.mem_of_getElem? (i := 669) (by decide +kernel)
theorem tw_670 : (Cond.methodLink "CourierWar$Marshal" 153 ⟨"CourierWar$Marshal", "seesEnemy", "(LCourierWar$War;LCourierWar$Troop;)Z"⟩) ∈ lw_tbl := List.mem_of_getElem? (i := 670) (by decide +kernel)
theorem tw_671 : (Cond.static ⟨"CourierWar$Marshal", "seesEnemy", "(LCourierWar$War;LCourierWar$Troop;)Z"⟩) ∈ lw_tbl := List.mem_of_getElem? (i := 671) (by decide +kernel)
theorem tw_672 : (Cond.code ⟨"CourierWar$Marshal", "seesEnemy", "(LCourierWar$War;LCourierWar$Troop;)Z"⟩ prog_4_method_10_code 4 (some .boolean)) ∈ lw_tbl := List.mem_of_getElem? (i := 672) (by decide +kernel)
theorem tw_673 : (Cond.methodLink "CourierWar$Marshal" 157 ⟨"CourierWar$Terrain", "inSight", "(II)Z"⟩) ∈ lw_tbl := List.mem_of_getElem? (i := 673) (by decide +kernel)
theorem tw_674 : (Cond.methodLink "CourierWarLaw" 87 ⟨"CourierWar", "arrivesIn", "(I)I"⟩) ∈ lw_tbl := List.mem_of_getElem? (i := 674) (by decide +kernel)
theorem tw_675 : (Cond.instanceMethod ⟨"CourierWar", "arrivesIn", "(I)I"⟩) ∈ lw_tbl := List.mem_of_getElem? (i := 675) (by decide +kernel)
theorem tw_676 : (Cond.selects "CourierWar" ⟨"CourierWar", "arrivesIn", "(I)I"⟩ ⟨"CourierWar", "arrivesIn", "(I)I"⟩) ∈ lw_tbl := List.mem_of_getElem? (i := 676) (by decide +kernel)
theorem tw_677 : (Cond.code ⟨"CourierWar", "arrivesIn", "(I)I"⟩ prog_1_method_21_code 4 (some .int)) ∈ lw_tbl := List.mem_of_getElem? (i := 677) (by decide +kernel)
theorem tw_678 : (Cond.methodLink "CourierWarLaw" 115 ⟨"CourierWarLaw", "act", "(LCourierWar;III[I[I[I[I)Z"⟩) ∈ lw_tbl := List.mem_of_getElem? (i := 678) (by decide +kernel)
theorem tw_679 : (Cond.static ⟨"CourierWarLaw", "act", "(LCourierWar;III[I[I[I[I)Z"⟩) ∈ lw_tbl := List.mem_of_getElem? (i := 679) (by decide +kernel)
set_option maxRecDepth 200000 in
theorem tw_680 : (Cond.code ⟨"CourierWarLaw", "act", "(LCourierWar;III[I[I[I[I)Z"⟩ method_18_code 13 (some .boolean)) ∈ lw_tbl := List.mem_of_getElem? (i := 680) rfl
theorem tw_681 : (Cond.methodLink "CourierWarLaw" 97 ⟨"CourierWar", "addTroop", "(III)I"⟩) ∈ lw_tbl := List.mem_of_getElem? (i := 681) (by decide +kernel)
theorem tw_682 : (Cond.instanceMethod ⟨"CourierWar", "addTroop", "(III)I"⟩) ∈ lw_tbl := List.mem_of_getElem? (i := 682) (by decide +kernel)
theorem tw_683 : (Cond.selects "CourierWar" ⟨"CourierWar", "addTroop", "(III)I"⟩ ⟨"CourierWar", "addTroop", "(III)I"⟩) ∈ lw_tbl := List.mem_of_getElem? (i := 683) (by decide +kernel)
theorem tw_684 : (Cond.code ⟨"CourierWar", "addTroop", "(III)I"⟩ prog_1_method_4_code 4 (some .int)) ∈ lw_tbl := List.mem_of_getElem? (i := 684) (by decide +kernel)
theorem tw_685 : (Cond.stringRef "CourierWar" 81 "a strength is 1 to 20") ∈ lw_tbl := List.mem_of_getElem? (i := 685) (by decide +kernel)
theorem tw_686 : (Cond.methodLink "CourierWar" 87 ⟨"CourierWar$War", "troopIn", "(I)I"⟩) ∈ lw_tbl := List.mem_of_getElem? (i := 686) (by decide +kernel)
theorem tw_687 : (Cond.classLink "CourierWar" 91 "java/lang/IllegalStateException") ∈ lw_tbl := List.mem_of_getElem? (i := 687) (by decide +kernel)
theorem tw_688 : (Cond.instantiable "java/lang/IllegalStateException" 6) ∈ lw_tbl := List.mem_of_getElem? (i := 688) (by decide +kernel)
theorem tw_689 : (Cond.castable "java/lang/IllegalStateException" "java/lang/IllegalStateException") ∈ lw_tbl := List.mem_of_getElem? (i := 689) (by decide +kernel)
theorem tw_690 : (Cond.selects "java/lang/IllegalStateException" ⟨"java/lang/Throwable", "fillInStackTrace", "(I)Ljava/lang/Throwable;"⟩ ⟨"java/lang/Throwable", "fillInStackTrace", "(I)Ljava/lang/Throwable;"⟩) ∈ lw_tbl := List.mem_of_getElem? (i := 690) (by decide +kernel)
theorem tw_691 : (Cond.lays "java/lang/IllegalStateException" "java/lang/Throwable" "cause" "Ljava/lang/Throwable;") ∈ lw_tbl := List.mem_of_getElem? (i := 691) (by decide +kernel)
theorem tw_692 : (Cond.lays "java/lang/IllegalStateException" "java/lang/Throwable" "stackTrace" "[Ljava/lang/StackTraceElement;") ∈ lw_tbl := List.mem_of_getElem? (i := 692) (by decide +kernel)
theorem tw_693 : (Cond.lays "java/lang/IllegalStateException" "java/lang/Throwable" "suppressedExceptions" "Ljava/util/List;") ∈ lw_tbl := List.mem_of_getElem? (i := 693) (by decide +kernel)
theorem tw_694 : (Cond.lays "java/lang/IllegalStateException" "java/lang/Throwable" "detailMessage" "Ljava/lang/String;") ∈ lw_tbl := List.mem_of_getElem? (i := 694) (by decide +kernel)
theorem tw_695 : (Cond.lays "java/lang/IllegalStateException" "java/lang/Throwable" "backtrace" "Ljava/lang/Object;") ∈ lw_tbl := List.mem_of_getElem? (i := 695) (by decide +kernel)
theorem tw_696 : (Cond.stringRef "CourierWar" 93 "there is no place for the troop") ∈ lw_tbl := List.mem_of_getElem? (i := 696) (by decide +kernel)
theorem tw_697 : (Cond.methodLink "CourierWar" 95 ⟨"java/lang/IllegalStateException", "<init>", "(Ljava/lang/String;)V"⟩) ∈ lw_tbl := List.mem_of_getElem? (i := 697) (by decide +kernel)
theorem tw_698 : (Cond.instanceMethod ⟨"java/lang/IllegalStateException", "<init>", "(Ljava/lang/String;)V"⟩) ∈ lw_tbl := List.mem_of_getElem? (i := 698) (by decide +kernel)
theorem tw_699 : (Cond.code ⟨"java/lang/IllegalStateException", "<init>", "(Ljava/lang/String;)V"⟩ prog_15_method_2_code 2 none) ∈ lw_tbl := List.mem_of_getElem? (i := 699) (by decide +kernel)
theorem tw_700 : (Cond.methodLink "java/lang/IllegalStateException" 7 ⟨"java/lang/RuntimeException", "<init>", "(Ljava/lang/String;)V"⟩) ∈ lw_tbl := List.mem_of_getElem? (i := 700) (by decide +kernel)
theorem tw_701 : (Cond.lays "java/lang/IllegalStateException" "java/lang/Throwable" "depth" "I") ∈ lw_tbl := List.mem_of_getElem? (i := 701) (by decide +kernel)
theorem tw_703 : (Cond.methodLink "CourierWar" 96 ⟨"CourierWar$War", "recruit", "(III)I"⟩) ∈ lw_tbl := List.mem_of_getElem? (i := 703) (by decide +kernel)
theorem tw_704 : (Cond.instanceMethod ⟨"CourierWar$War", "recruit", "(III)I"⟩) ∈ lw_tbl := List.mem_of_getElem? (i := 704) (by decide +kernel)
theorem tw_705 : (Cond.selects "CourierWar$War" ⟨"CourierWar$War", "recruit", "(III)I"⟩ ⟨"CourierWar$War", "recruit", "(III)I"⟩) ∈ lw_tbl := List.mem_of_getElem? (i := 705) (by decide +kernel)
theorem tw_706 : (Cond.code ⟨"CourierWar$War", "recruit", "(III)I"⟩ prog_10_method_3_code 5 (some .int)) ∈ lw_tbl := List.mem_of_getElem? (i := 706) (by decide +kernel)
theorem tw_707 : (Cond.methodLink "CourierWar$War" 65 ⟨"CourierWar$Troop", "muster", "(III)V"⟩) ∈ lw_tbl := List.mem_of_getElem? (i := 707) (by decide +kernel)
theorem tw_708 : (Cond.instanceMethod ⟨"CourierWar$Troop", "muster", "(III)V"⟩) ∈ lw_tbl := List.mem_of_getElem? (i := 708) (by decide +kernel)
theorem tw_709 : (Cond.selects "CourierWar$Troop" ⟨"CourierWar$Troop", "muster", "(III)V"⟩ ⟨"CourierWar$Troop", "muster", "(III)V"⟩) ∈ lw_tbl := List.mem_of_getElem? (i := 709) (by decide +kernel)
theorem tw_710 : (Cond.code ⟨"CourierWar$Troop", "muster", "(III)V"⟩ prog_9_method_2_code 4 none) ∈ lw_tbl := List.mem_of_getElem? (i := 710) (by decide +kernel)
theorem tw_711 : (Cond.methodLink "CourierWarLaw" 100 ⟨"CourierWar", "order", "(II)I"⟩) ∈ lw_tbl := List.mem_of_getElem? (i := 711) (by decide +kernel)
theorem tw_712 : (Cond.instanceMethod ⟨"CourierWar", "order", "(II)I"⟩) ∈ lw_tbl := List.mem_of_getElem? (i := 712) (by decide +kernel)
theorem tw_713 : (Cond.selects "CourierWar" ⟨"CourierWar", "order", "(II)I"⟩ ⟨"CourierWar", "order", "(II)I"⟩) ∈ lw_tbl := List.mem_of_getElem? (i := 713) (by decide +kernel)
theorem tw_714 : (Cond.code ⟨"CourierWar", "order", "(II)I"⟩ prog_1_method_5_code 3 (some .int)) ∈ lw_tbl := List.mem_of_getElem? (i := 714) (by decide +kernel)
theorem tw_715 : (Cond.stringRef "CourierWar" 106 "the order can't be given") ∈ lw_tbl := List.mem_of_getElem? (i := 715) (by decide +kernel)
theorem tw_716 : (Cond.methodLink "CourierWar" 108 ⟨"CourierWar", "sendOrder", "(II)I"⟩) ∈ lw_tbl := List.mem_of_getElem? (i := 716) (by decide +kernel)
theorem tw_718 : (Cond.instanceMethod ⟨"CourierWar", "sendOrder", "(II)I"⟩) ∈ lw_tbl := List.mem_of_getElem? (i := 718) (by decide +kernel)
theorem tw_719 : (Cond.code ⟨"CourierWar", "sendOrder", "(II)I"⟩ prog_1_method_30_code 4 (some .int)) ∈ lw_tbl := List.mem_of_getElem? (i := 719) (by decide +kernel)
theorem tw_720 : (Cond.methodLink "CourierWar" 275 ⟨"CourierWar$Couriers", "turnsTo", "(LCourierWar$War;I)I"⟩) ∈ lw_tbl := List.mem_of_getElem? (i := 720) (by decide +kernel)
theorem tw_721 : (Cond.methodLink "CourierWar" 278 ⟨"CourierWar$War", "enqueue", "(III)V"⟩) ∈ lw_tbl := List.mem_of_getElem? (i := 721) (by decide +kernel)
theorem tw_722 : (Cond.instanceMethod ⟨"CourierWar$War", "enqueue", "(III)V"⟩) ∈ lw_tbl := List.mem_of_getElem? (i := 722) (by decide +kernel)
theorem tw_723 : (Cond.selects "CourierWar$War" ⟨"CourierWar$War", "enqueue", "(III)V"⟩ ⟨"CourierWar$War", "enqueue", "(III)V"⟩) ∈ lw_tbl := List.mem_of_getElem? (i := 723) (by decide +kernel)
theorem tw_724 : (Cond.code ⟨"CourierWar$War", "enqueue", "(III)V"⟩ prog_10_method_4_code 5 none) ∈ lw_tbl := List.mem_of_getElem? (i := 724) (by decide +kernel)
theorem tw_725 : (Cond.methodLink "CourierWar$War" 72 ⟨"CourierWar$Order", "write", "(IIII)V"⟩) ∈ lw_tbl := List.mem_of_getElem? (i := 725) (by decide +kernel)
theorem tw_726 : (Cond.methodLink "CourierWarLaw" 103 ⟨"CourierWar", "pass", "(I)I"⟩) ∈ lw_tbl := List.mem_of_getElem? (i := 726) (by decide +kernel)
theorem tw_727 : (Cond.instanceMethod ⟨"CourierWar", "pass", "(I)I"⟩) ∈ lw_tbl := List.mem_of_getElem? (i := 727) (by decide +kernel)
theorem tw_728 : (Cond.selects "CourierWar" ⟨"CourierWar", "pass", "(I)I"⟩ ⟨"CourierWar", "pass", "(I)I"⟩) ∈ lw_tbl := List.mem_of_getElem? (i := 728) (by decide +kernel)
theorem tw_729 : (Cond.code ⟨"CourierWar", "pass", "(I)I"⟩ prog_1_method_6_code 3 (some .int)) ∈ lw_tbl := List.mem_of_getElem? (i := 729) (by decide +kernel)
theorem tw_730 : (Cond.stringRef "CourierWar" 118 "the war ends with the turn 1000") ∈ lw_tbl := List.mem_of_getElem? (i := 730) (by decide +kernel)
theorem tw_731 : (Cond.methodLink "CourierWar" 120 ⟨"CourierWar$War", "lostByBoth", "()I"⟩) ∈ lw_tbl := List.mem_of_getElem? (i := 731) (by decide +kernel)
theorem tw_732 : (Cond.instanceMethod ⟨"CourierWar$War", "lostByBoth", "()I"⟩) ∈ lw_tbl := List.mem_of_getElem? (i := 732) (by decide +kernel)
theorem tw_733 : (Cond.selects "CourierWar$War" ⟨"CourierWar$War", "lostByBoth", "()I"⟩ ⟨"CourierWar$War", "lostByBoth", "()I"⟩) ∈ lw_tbl := List.mem_of_getElem? (i := 733) (by decide +kernel)
theorem tw_734 : (Cond.code ⟨"CourierWar$War", "lostByBoth", "()I"⟩ prog_10_method_10_code 1 (some .int)) ∈ lw_tbl := List.mem_of_getElem? (i := 734) (by decide +kernel)
theorem tw_735 : (Cond.constant "CourierWarLaw" 114 2147483647) ∈ lw_tbl := List.mem_of_getElem? (i := 735) (by decide +kernel)
end
section
theorem dX4_init_0 : decode cX4_init 0 = .ok (.aload_n 0, 1) := by decide +kernel
theorem dX4_init_1 : decode cX4_init 1 = .ok (.invokespecial 3, 3) := by decide +kernel
theorem dX4_init_4 : decode cX4_init 4 = .ok (.aload_n 0, 1) := by decide +kernel
theorem dX4_init_5 : decode cX4_init 5 = .ok (.bipush 96, 2) := by decide +kernel
theorem dX4_init_7 : decode cX4_init 7 = .ok (.newarray .int, 2) := by decide +kernel
theorem dX4_init_9 : decode cX4_init 9 = .ok (.putfield 9, 3) := by decide +kernel
theorem dX4_init_12 : decode cX4_init 12 = .ok (.aload_n 0, 1) := by decide +kernel
theorem dX4_init_13 : decode cX4_init 13 = .ok (.bipush 96, 2) := by decide +kernel
theorem dX4_init_15 : decode cX4_init 15 = .ok (.newarray .int, 2) := by decide +kernel
theorem dX4_init_17 : decode cX4_init 17 = .ok (.putfield 15, 3) := by decide +kernel
theorem dX4_init_20 : decode cX4_init 20 = .ok (.aload_n 0, 1) := by decide +kernel
theorem dX4_init_21 : decode cX4_init 21 = .ok (.bipush 96, 2) := by decide +kernel
theorem dX4_init_23 : decode cX4_init 23 = .ok (.newarray .int, 2) := by decide +kernel
theorem dX4_init_25 : decode cX4_init 25 = .ok (.putfield 18, 3) := by decide +kernel
theorem dX4_init_28 : decode cX4_init 28 = .ok (.return_, 1) := by decide +kernel
theorem dX0_init_0 : decode cX0_init 0 = .ok (.aload_n 0, 1) := by decide +kernel
theorem dX0_init_1 : decode cX0_init 1 = .ok (.invokespecial 3, 3) := by decide +kernel
theorem dX0_init_4 : decode cX0_init 4 = .ok (.aload_n 0, 1) := by decide +kernel
theorem dX0_init_5 : decode cX0_init 5 = .ok (.new 9, 3) := by decide +kernel
theorem dX0_init_8 : decode cX0_init 8 = .ok (.dup, 1) := by decide +kernel
theorem dX0_init_9 : decode cX0_init 9 = .ok (.invokespecial 11, 3) := by decide +kernel
theorem dX0_init_12 : decode cX0_init 12 = .ok (.putfield 12, 3) := by decide +kernel
theorem dX0_init_15 : decode cX0_init 15 = .ok (.aload_n 0, 1) := by decide +kernel
theorem dX0_init_16 : decode cX0_init 16 = .ok (.bipush 96, 2) := by decide +kernel
theorem dX0_init_18 : decode cX0_init 18 = .ok (.newarray .int, 2) := by decide +kernel
theorem dX0_init_20 : decode cX0_init 20 = .ok (.putfield 18, 3) := by decide +kernel
theorem dX0_init_23 : decode cX0_init 23 = .ok (.return_, 1) := by decide +kernel
theorem dJ7_fill_53178_0 : decode cJ7_fill_53178 0 = .ok (.iconst 0, 1) := by decide +kernel
theorem dJ7_fill_53178_1 : decode cJ7_fill_53178 1 = .ok (.istore_n 2, 1) := by decide +kernel
theorem dJ7_fill_53178_2 : decode cJ7_fill_53178 2 = .ok (.aload_n 0, 1) := by decide +kernel
theorem dJ7_fill_53178_3 : decode cJ7_fill_53178 3 = .ok (.arraylength, 1) := by decide +kernel
theorem dJ7_fill_53178_4 : decode cJ7_fill_53178 4 = .ok (.istore_n 3, 1) := by decide +kernel
theorem dJ7_fill_53178_5 : decode cJ7_fill_53178 5 = .ok (.iload_n 2, 1) := by decide +kernel
theorem dJ7_fill_53178_6 : decode cJ7_fill_53178 6 = .ok (.iload_n 3, 1) := by decide +kernel
theorem dJ7_fill_53178_7 : decode cJ7_fill_53178 7 = .ok (.if_icmp .ge 13, 3) := by decide +kernel
theorem dJ7_fill_53178_10 : decode cJ7_fill_53178 10 = .ok (.aload_n 0, 1) := by decide +kernel
theorem dJ7_fill_53178_11 : decode cJ7_fill_53178 11 = .ok (.iload_n 2, 1) := by decide +kernel
theorem dJ7_fill_53178_12 : decode cJ7_fill_53178 12 = .ok (.iload_n 1, 1) := by decide +kernel
theorem dJ7_fill_53178_13 : decode cJ7_fill_53178 13 = .ok (.iastore, 1) := by decide +kernel
theorem dJ7_fill_53178_14 : decode cJ7_fill_53178 14 = .ok (.iinc 2 1, 3) := by decide +kernel
theorem dJ7_fill_53178_17 : decode cJ7_fill_53178 17 = .ok (.goto (-12), 3) := by decide +kernel
theorem dJ7_fill_53178_20 : decode cJ7_fill_53178 20 = .ok (.return_, 1) := by decide +kernel
theorem dX9_neighbour_0 : decode cX9_neighbour 0 = .ok (.iload_n 1, 1) := by decide +kernel
theorem dX9_neighbour_1 : decode cX9_neighbour 1 = .ok (.tableswitch 74 0 2 #[27, 42, 59], 27) := by decide +kernel
theorem dX9_neighbour_28 : decode cX9_neighbour 28 = .ok (.iload_n 0, 1) := by decide +kernel
theorem dX9_neighbour_29 : decode cX9_neighbour 29 = .ok (.bipush 12, 2) := by decide +kernel
theorem dX9_neighbour_31 : decode cX9_neighbour 31 = .ok (.if_icmp .lt 10, 3) := by decide +kernel
theorem dX9_neighbour_34 : decode cX9_neighbour 34 = .ok (.iload_n 0, 1) := by decide +kernel
theorem dX9_neighbour_35 : decode cX9_neighbour 35 = .ok (.bipush 12, 2) := by decide +kernel
theorem dX9_neighbour_37 : decode cX9_neighbour 37 = .ok (.isub, 1) := by decide +kernel
theorem dX9_neighbour_38 : decode cX9_neighbour 38 = .ok (.goto 4, 3) := by decide +kernel
theorem dX9_neighbour_41 : decode cX9_neighbour 41 = .ok (.iconst (-1), 1) := by decide +kernel
theorem dX9_neighbour_42 : decode cX9_neighbour 42 = .ok (.ireturn, 1) := by decide +kernel
theorem dX9_neighbour_43 : decode cX9_neighbour 43 = .ok (.iload_n 0, 1) := by decide +kernel
theorem dX9_neighbour_44 : decode cX9_neighbour 44 = .ok (.bipush 12, 2) := by decide +kernel
theorem dX9_neighbour_46 : decode cX9_neighbour 46 = .ok (.irem, 1) := by decide +kernel
theorem dX9_neighbour_47 : decode cX9_neighbour 47 = .ok (.bipush 11, 2) := by decide +kernel
theorem dX9_neighbour_49 : decode cX9_neighbour 49 = .ok (.if_icmp .ge 9, 3) := by decide +kernel
theorem dX9_neighbour_52 : decode cX9_neighbour 52 = .ok (.iload_n 0, 1) := by decide +kernel
theorem dX9_neighbour_53 : decode cX9_neighbour 53 = .ok (.iconst 1, 1) := by decide +kernel
theorem dX9_neighbour_54 : decode cX9_neighbour 54 = .ok (.iadd, 1) := by decide +kernel
theorem dX9_neighbour_55 : decode cX9_neighbour 55 = .ok (.goto 4, 3) := by decide +kernel
theorem dX9_neighbour_58 : decode cX9_neighbour 58 = .ok (.iconst (-1), 1) := by decide +kernel
theorem dX9_neighbour_59 : decode cX9_neighbour 59 = .ok (.ireturn, 1) := by decide +kernel
theorem dX9_neighbour_60 : decode cX9_neighbour 60 = .ok (.iload_n 0, 1) := by decide +kernel
theorem dX9_neighbour_61 : decode cX9_neighbour 61 = .ok (.bipush 84, 2) := by decide +kernel
theorem dX9_neighbour_63 : decode cX9_neighbour 63 = .ok (.if_icmp .ge 10, 3) := by decide +kernel
theorem dX9_neighbour_66 : decode cX9_neighbour 66 = .ok (.iload_n 0, 1) := by decide +kernel
theorem dX9_neighbour_67 : decode cX9_neighbour 67 = .ok (.bipush 12, 2) := by decide +kernel
theorem dX9_neighbour_69 : decode cX9_neighbour 69 = .ok (.iadd, 1) := by decide +kernel
theorem dX9_neighbour_70 : decode cX9_neighbour 70 = .ok (.goto 4, 3) := by decide +kernel
theorem dX9_neighbour_73 : decode cX9_neighbour 73 = .ok (.iconst (-1), 1) := by decide +kernel
theorem dX9_neighbour_74 : decode cX9_neighbour 74 = .ok (.ireturn, 1) := by decide +kernel
theorem dX9_neighbour_75 : decode cX9_neighbour 75 = .ok (.iload_n 0, 1) := by decide +kernel
theorem dX9_neighbour_76 : decode cX9_neighbour 76 = .ok (.bipush 12, 2) := by decide +kernel
theorem dX9_neighbour_78 : decode cX9_neighbour 78 = .ok (.irem, 1) := by decide +kernel
theorem dX9_neighbour_79 : decode cX9_neighbour 79 = .ok (.ifCond .le 9, 3) := by decide +kernel
theorem dX9_neighbour_82 : decode cX9_neighbour 82 = .ok (.iload_n 0, 1) := by decide +kernel
theorem dX9_neighbour_83 : decode cX9_neighbour 83 = .ok (.iconst 1, 1) := by decide +kernel
theorem dX9_neighbour_84 : decode cX9_neighbour 84 = .ok (.isub, 1) := by decide +kernel
theorem dX9_neighbour_85 : decode cX9_neighbour 85 = .ok (.goto 4, 3) := by decide +kernel
theorem dX9_neighbour_88 : decode cX9_neighbour 88 = .ok (.iconst (-1), 1) := by decide +kernel
theorem dX9_neighbour_89 : decode cX9_neighbour 89 = .ok (.ireturn, 1) := by decide +kernel
theorem dX4_isOpen_0 : decode cX4_isOpen 0 = .ok (.aload_n 0, 1) := by decide +kernel
theorem dX4_isOpen_1 : decode cX4_isOpen 1 = .ok (.getfield 9, 3) := by decide +kernel
theorem dX4_isOpen_4 : decode cX4_isOpen 4 = .ok (.iload_n 1, 1) := by decide +kernel
theorem dX4_isOpen_5 : decode cX4_isOpen 5 = .ok (.iaload, 1) := by decide +kernel
theorem dX4_isOpen_6 : decode cX4_isOpen 6 = .ok (.iconst (-1), 1) := by decide +kernel
theorem dX4_isOpen_7 : decode cX4_isOpen 7 = .ok (.if_icmp .ne 16, 3) := by decide +kernel
theorem dX4_isOpen_10 : decode cX4_isOpen 10 = .ok (.aload_n 0, 1) := by decide +kernel
theorem dX4_isOpen_11 : decode cX4_isOpen 11 = .ok (.getfield 18, 3) := by decide +kernel
theorem dX4_isOpen_14 : decode cX4_isOpen 14 = .ok (.iload_n 1, 1) := by decide +kernel
theorem dX4_isOpen_15 : decode cX4_isOpen 15 = .ok (.iaload, 1) := by decide +kernel
theorem dX4_isOpen_16 : decode cX4_isOpen 16 = .ok (.ifCond .ne 7, 3) := by decide +kernel
theorem dX4_isOpen_19 : decode cX4_isOpen 19 = .ok (.iconst 1, 1) := by decide +kernel
theorem dX4_isOpen_20 : decode cX4_isOpen 20 = .ok (.goto 4, 3) := by decide +kernel
theorem dX4_isOpen_23 : decode cX4_isOpen 23 = .ok (.iconst 0, 1) := by decide +kernel
theorem dX4_isOpen_24 : decode cX4_isOpen 24 = .ok (.ireturn, 1) := by decide +kernel
theorem dX5_canStep_0 : decode cX5_canStep 0 = .ok (.aload_n 0, 1) := by decide +kernel
theorem dX5_canStep_1 : decode cX5_canStep 1 = .ok (.getfield 9, 3) := by decide +kernel
theorem dX5_canStep_4 : decode cX5_canStep 4 = .ok (.iload_n 2, 1) := by decide +kernel
theorem dX5_canStep_5 : decode cX5_canStep 5 = .ok (.iaload, 1) := by decide +kernel
theorem dX5_canStep_6 : decode cX5_canStep 6 = .ok (.aload_n 0, 1) := by decide +kernel
theorem dX5_canStep_7 : decode cX5_canStep 7 = .ok (.getfield 9, 3) := by decide +kernel
theorem dX5_canStep_10 : decode cX5_canStep 10 = .ok (.iload_n 1, 1) := by decide +kernel
theorem dX5_canStep_11 : decode cX5_canStep 11 = .ok (.iaload, 1) := by decide +kernel
theorem dX5_canStep_12 : decode cX5_canStep 12 = .ok (.isub, 1) := by decide +kernel
theorem dX5_canStep_13 : decode cX5_canStep 13 = .ok (.istore_n 3, 1) := by decide +kernel
theorem dX5_canStep_14 : decode cX5_canStep 14 = .ok (.iload_n 3, 1) := by decide +kernel
theorem dX5_canStep_15 : decode cX5_canStep 15 = .ok (.iconst 2, 1) := by decide +kernel
theorem dX5_canStep_16 : decode cX5_canStep 16 = .ok (.if_icmp .gt 13, 3) := by decide +kernel
theorem dX5_canStep_19 : decode cX5_canStep 19 = .ok (.iload_n 3, 1) := by decide +kernel
theorem dX5_canStep_20 : decode cX5_canStep 20 = .ok (.bipush (-2), 2) := by decide +kernel
theorem dX5_canStep_22 : decode cX5_canStep 22 = .ok (.if_icmp .lt 7, 3) := by decide +kernel
theorem dX5_canStep_25 : decode cX5_canStep 25 = .ok (.iconst 1, 1) := by decide +kernel
theorem dX5_canStep_26 : decode cX5_canStep 26 = .ok (.goto 4, 3) := by decide +kernel
theorem dX5_canStep_29 : decode cX5_canStep 29 = .ok (.iconst 0, 1) := by decide +kernel
theorem dX5_canStep_30 : decode cX5_canStep 30 = .ok (.ireturn, 1) := by decide +kernel
theorem dX4_spread_0 : decode cX4_spread 0 = .ok (.aload_n 0, 1) := by decide +kernel
theorem dX4_spread_1 : decode cX4_spread 1 = .ok (.getfield 9, 3) := by decide +kernel
theorem dX4_spread_4 : decode cX4_spread 4 = .ok (.iconst (-1), 1) := by decide +kernel
theorem dX4_spread_5 : decode cX4_spread 5 = .ok (.invokestatic 21, 3) := by decide +kernel
theorem dX4_spread_8 : decode cX4_spread 8 = .ok (.aload_n 0, 1) := by decide +kernel
theorem dX4_spread_9 : decode cX4_spread 9 = .ok (.getfield 9, 3) := by decide +kernel
theorem dX4_spread_12 : decode cX4_spread 12 = .ok (.iload_n 2, 1) := by decide +kernel
theorem dX4_spread_13 : decode cX4_spread 13 = .ok (.iconst 0, 1) := by decide +kernel
theorem dX4_spread_14 : decode cX4_spread 14 = .ok (.iastore, 1) := by decide +kernel
theorem dX4_spread_15 : decode cX4_spread 15 = .ok (.aload_n 0, 1) := by decide +kernel
theorem dX4_spread_16 : decode cX4_spread 16 = .ok (.getfield 15, 3) := by decide +kernel
theorem dX4_spread_19 : decode cX4_spread 19 = .ok (.iconst 0, 1) := by decide +kernel
theorem dX4_spread_20 : decode cX4_spread 20 = .ok (.iload_n 2, 1) := by decide +kernel
theorem dX4_spread_21 : decode cX4_spread 21 = .ok (.iastore, 1) := by decide +kernel
theorem dX4_spread_22 : decode cX4_spread 22 = .ok (.iconst 1, 1) := by decide +kernel
theorem dX4_spread_23 : decode cX4_spread 23 = .ok (.istore 4, 2) := by decide +kernel
theorem dX4_spread_25 : decode cX4_spread 25 = .ok (.iconst 0, 1) := by decide +kernel
theorem dX4_spread_26 : decode cX4_spread 26 = .ok (.istore 5, 2) := by decide +kernel
theorem dX4_spread_28 : decode cX4_spread 28 = .ok (.iload 5, 2) := by decide +kernel
theorem dX4_spread_30 : decode cX4_spread 30 = .ok (.iload 4, 2) := by decide +kernel
theorem dX4_spread_32 : decode cX4_spread 32 = .ok (.if_icmp .ge 118, 3) := by decide +kernel
theorem dX4_spread_35 : decode cX4_spread 35 = .ok (.iload_n 3, 1) := by decide +kernel
theorem dX4_spread_36 : decode cX4_spread 36 = .ok (.iconst (-1), 1) := by decide +kernel
theorem dX4_spread_37 : decode cX4_spread 37 = .ok (.if_icmp .eq 13, 3) := by decide +kernel
theorem dX4_spread_40 : decode cX4_spread 40 = .ok (.aload_n 0, 1) := by decide +kernel
theorem dX4_spread_41 : decode cX4_spread 41 = .ok (.getfield 9, 3) := by decide +kernel
theorem dX4_spread_44 : decode cX4_spread 44 = .ok (.iload_n 3, 1) := by decide +kernel
theorem dX4_spread_45 : decode cX4_spread 45 = .ok (.iaload, 1) := by decide +kernel
theorem dX4_spread_46 : decode cX4_spread 46 = .ok (.iconst (-1), 1) := by decide +kernel
theorem dX4_spread_47 : decode cX4_spread 47 = .ok (.if_icmp .ne 103, 3) := by decide +kernel
theorem dX4_spread_50 : decode cX4_spread 50 = .ok (.aload_n 0, 1) := by decide +kernel
theorem dX4_spread_51 : decode cX4_spread 51 = .ok (.getfield 15, 3) := by decide +kernel
theorem dX4_spread_54 : decode cX4_spread 54 = .ok (.iload 5, 2) := by decide +kernel
theorem dX4_spread_56 : decode cX4_spread 56 = .ok (.iaload, 1) := by decide +kernel
theorem dX4_spread_57 : decode cX4_spread 57 = .ok (.istore 6, 2) := by decide +kernel
theorem dX4_spread_59 : decode cX4_spread 59 = .ok (.iconst 0, 1) := by decide +kernel
theorem dX4_spread_60 : decode cX4_spread 60 = .ok (.istore 7, 2) := by decide +kernel
theorem dX4_spread_62 : decode cX4_spread 62 = .ok (.iload 7, 2) := by decide +kernel
theorem dX4_spread_64 : decode cX4_spread 64 = .ok (.iconst 4, 1) := by decide +kernel
theorem dX4_spread_65 : decode cX4_spread 65 = .ok (.if_icmp .ge 79, 3) := by decide +kernel
theorem dX4_spread_68 : decode cX4_spread 68 = .ok (.iload 6, 2) := by decide +kernel
theorem dX4_spread_70 : decode cX4_spread 70 = .ok (.iload 7, 2) := by decide +kernel
theorem dX4_spread_72 : decode cX4_spread 72 = .ok (.invokestatic 27, 3) := by decide +kernel
theorem dX4_spread_75 : decode cX4_spread 75 = .ok (.istore 8, 2) := by decide +kernel
theorem dX4_spread_77 : decode cX4_spread 77 = .ok (.iload 8, 2) := by decide +kernel
theorem dX4_spread_79 : decode cX4_spread 79 = .ok (.iconst (-1), 1) := by decide +kernel
theorem dX4_spread_80 : decode cX4_spread 80 = .ok (.if_icmp .eq 58, 3) := by decide +kernel
theorem dX4_spread_83 : decode cX4_spread 83 = .ok (.iload 4, 2) := by decide +kernel
theorem dX4_spread_85 : decode cX4_spread 85 = .ok (.bipush 96, 2) := by decide +kernel
theorem dX4_spread_87 : decode cX4_spread 87 = .ok (.if_icmp .ge 51, 3) := by decide +kernel
theorem dX4_spread_90 : decode cX4_spread 90 = .ok (.aload_n 0, 1) := by decide +kernel
theorem dX4_spread_91 : decode cX4_spread 91 = .ok (.iload 8, 2) := by decide +kernel
theorem dX4_spread_93 : decode cX4_spread 93 = .ok (.invokevirtual 31, 3) := by decide +kernel
theorem dX4_spread_96 : decode cX4_spread 96 = .ok (.ifCond .eq 42, 3) := by decide +kernel
theorem dX4_spread_99 : decode cX4_spread 99 = .ok (.aload_n 1, 1) := by decide +kernel
theorem dX4_spread_100 : decode cX4_spread 100 = .ok (.iload 6, 2) := by decide +kernel
theorem dX4_spread_102 : decode cX4_spread 102 = .ok (.iload 8, 2) := by decide +kernel
theorem dX4_spread_104 : decode cX4_spread 104 = .ok (.invokevirtual 35, 3) := by decide +kernel
theorem dX4_spread_107 : decode cX4_spread 107 = .ok (.ifCond .eq 31, 3) := by decide +kernel
theorem dX4_spread_110 : decode cX4_spread 110 = .ok (.aload_n 0, 1) := by decide +kernel
theorem dX4_spread_111 : decode cX4_spread 111 = .ok (.getfield 9, 3) := by decide +kernel
theorem dX4_spread_114 : decode cX4_spread 114 = .ok (.iload 8, 2) := by decide +kernel
theorem dX4_spread_116 : decode cX4_spread 116 = .ok (.aload_n 0, 1) := by decide +kernel
theorem dX4_spread_117 : decode cX4_spread 117 = .ok (.getfield 9, 3) := by decide +kernel
theorem dX4_spread_120 : decode cX4_spread 120 = .ok (.iload 6, 2) := by decide +kernel
theorem dX4_spread_122 : decode cX4_spread 122 = .ok (.iaload, 1) := by decide +kernel
theorem dX4_spread_123 : decode cX4_spread 123 = .ok (.iconst 1, 1) := by decide +kernel
theorem dX4_spread_124 : decode cX4_spread 124 = .ok (.iadd, 1) := by decide +kernel
theorem dX4_spread_125 : decode cX4_spread 125 = .ok (.iastore, 1) := by decide +kernel
theorem dX4_spread_126 : decode cX4_spread 126 = .ok (.aload_n 0, 1) := by decide +kernel
theorem dX4_spread_127 : decode cX4_spread 127 = .ok (.getfield 15, 3) := by decide +kernel
theorem dX4_spread_130 : decode cX4_spread 130 = .ok (.iload 4, 2) := by decide +kernel
theorem dX4_spread_132 : decode cX4_spread 132 = .ok (.iload 8, 2) := by decide +kernel
theorem dX4_spread_134 : decode cX4_spread 134 = .ok (.iastore, 1) := by decide +kernel
theorem dX4_spread_135 : decode cX4_spread 135 = .ok (.iinc 4 1, 3) := by decide +kernel
theorem dX4_spread_138 : decode cX4_spread 138 = .ok (.iinc 7 1, 3) := by decide +kernel
theorem dX4_spread_141 : decode cX4_spread 141 = .ok (.goto (-79), 3) := by decide +kernel
theorem dX4_spread_144 : decode cX4_spread 144 = .ok (.iinc 5 1, 3) := by decide +kernel
theorem dX4_spread_147 : decode cX4_spread 147 = .ok (.goto (-119), 3) := by decide +kernel
theorem dX4_spread_150 : decode cX4_spread 150 = .ok (.return_, 1) := by decide +kernel
theorem dX0_stepsBetween_0 : decode cX0_stepsBetween 0 = .ok (.aload_n 0, 1) := by decide +kernel
theorem dX0_stepsBetween_1 : decode cX0_stepsBetween 1 = .ok (.getfield 12, 3) := by decide +kernel
theorem dX0_stepsBetween_4 : decode cX0_stepsBetween 4 = .ok (.aload_n 1, 1) := by decide +kernel
theorem dX0_stepsBetween_5 : decode cX0_stepsBetween 5 = .ok (.iload_n 3, 1) := by decide +kernel
theorem dX0_stepsBetween_6 : decode cX0_stepsBetween 6 = .ok (.iload_n 2, 1) := by decide +kernel
theorem dX0_stepsBetween_7 : decode cX0_stepsBetween 7 = .ok (.invokevirtual 22, 3) := by decide +kernel
theorem dX0_stepsBetween_10 : decode cX0_stepsBetween 10 = .ok (.aload_n 0, 1) := by decide +kernel
theorem dX0_stepsBetween_11 : decode cX0_stepsBetween 11 = .ok (.getfield 12, 3) := by decide +kernel
theorem dX0_stepsBetween_14 : decode cX0_stepsBetween 14 = .ok (.getfield 26, 3) := by decide +kernel
theorem dX0_stepsBetween_17 : decode cX0_stepsBetween 17 = .ok (.iload_n 2, 1) := by decide +kernel
theorem dX0_stepsBetween_18 : decode cX0_stepsBetween 18 = .ok (.iaload, 1) := by decide +kernel
theorem dX0_stepsBetween_19 : decode cX0_stepsBetween 19 = .ok (.ireturn, 1) := by decide +kernel
theorem dX5_between_0 : decode cX5_between 0 = .ok (.iload_n 3, 1) := by decide +kernel
theorem dX5_between_1 : decode cX5_between 1 = .ok (.iconst 1, 1) := by decide +kernel
theorem dX5_between_2 : decode cX5_between 2 = .ok (.if_icmp .ge 7, 3) := by decide +kernel
theorem dX5_between_5 : decode cX5_between 5 = .ok (.iload_n 0, 1) := by decide +kernel
theorem dX5_between_6 : decode cX5_between 6 = .ok (.goto 18, 3) := by decide +kernel
theorem dX5_between_9 : decode cX5_between 9 = .ok (.iconst 2, 1) := by decide +kernel
theorem dX5_between_10 : decode cX5_between 10 = .ok (.iload_n 3, 1) := by decide +kernel
theorem dX5_between_11 : decode cX5_between 11 = .ok (.iload_n 0, 1) := by decide +kernel
theorem dX5_between_12 : decode cX5_between 12 = .ok (.imul, 1) := by decide +kernel
theorem dX5_between_13 : decode cX5_between 13 = .ok (.iload_n 2, 1) := by decide +kernel
theorem dX5_between_14 : decode cX5_between 14 = .ok (.iload_n 1, 1) := by decide +kernel
theorem dX5_between_15 : decode cX5_between 15 = .ok (.imul, 1) := by decide +kernel
theorem dX5_between_16 : decode cX5_between 16 = .ok (.iadd, 1) := by decide +kernel
theorem dX5_between_17 : decode cX5_between 17 = .ok (.imul, 1) := by decide +kernel
theorem dX5_between_18 : decode cX5_between 18 = .ok (.iload_n 3, 1) := by decide +kernel
theorem dX5_between_19 : decode cX5_between 19 = .ok (.iadd, 1) := by decide +kernel
theorem dX5_between_20 : decode cX5_between 20 = .ok (.iconst 2, 1) := by decide +kernel
theorem dX5_between_21 : decode cX5_between 21 = .ok (.iload_n 3, 1) := by decide +kernel
theorem dX5_between_22 : decode cX5_between 22 = .ok (.imul, 1) := by decide +kernel
theorem dX5_between_23 : decode cX5_between 23 = .ok (.idiv, 1) := by decide +kernel
theorem dX5_between_24 : decode cX5_between 24 = .ok (.ireturn, 1) := by decide +kernel
theorem dX5_inSight_0 : decode cX5_inSight 0 = .ok (.iload_n 2, 1) := by decide +kernel
theorem dX5_inSight_1 : decode cX5_inSight 1 = .ok (.bipush 12, 2) := by decide +kernel
theorem dX5_inSight_3 : decode cX5_inSight 3 = .ok (.irem, 1) := by decide +kernel
theorem dX5_inSight_4 : decode cX5_inSight 4 = .ok (.iload_n 1, 1) := by decide +kernel
theorem dX5_inSight_5 : decode cX5_inSight 5 = .ok (.bipush 12, 2) := by decide +kernel
theorem dX5_inSight_7 : decode cX5_inSight 7 = .ok (.irem, 1) := by decide +kernel
theorem dX5_inSight_8 : decode cX5_inSight 8 = .ok (.isub, 1) := by decide +kernel
theorem dX5_inSight_9 : decode cX5_inSight 9 = .ok (.istore_n 3, 1) := by decide +kernel
theorem dX5_inSight_10 : decode cX5_inSight 10 = .ok (.iload_n 2, 1) := by decide +kernel
theorem dX5_inSight_11 : decode cX5_inSight 11 = .ok (.bipush 12, 2) := by decide +kernel
theorem dX5_inSight_13 : decode cX5_inSight 13 = .ok (.idiv, 1) := by decide +kernel
theorem dX5_inSight_14 : decode cX5_inSight 14 = .ok (.iload_n 1, 1) := by decide +kernel
theorem dX5_inSight_15 : decode cX5_inSight 15 = .ok (.bipush 12, 2) := by decide +kernel
theorem dX5_inSight_17 : decode cX5_inSight 17 = .ok (.idiv, 1) := by decide +kernel
theorem dX5_inSight_18 : decode cX5_inSight 18 = .ok (.isub, 1) := by decide +kernel
theorem dX5_inSight_19 : decode cX5_inSight 19 = .ok (.istore 4, 2) := by decide +kernel
theorem dX5_inSight_21 : decode cX5_inSight 21 = .ok (.iload_n 3, 1) := by decide +kernel
theorem dX5_inSight_22 : decode cX5_inSight 22 = .ok (.invokestatic 29, 3) := by decide +kernel
theorem dX5_inSight_25 : decode cX5_inSight 25 = .ok (.iload 4, 2) := by decide +kernel
theorem dX5_inSight_27 : decode cX5_inSight 27 = .ok (.invokestatic 29, 3) := by decide +kernel
theorem dX5_inSight_30 : decode cX5_inSight 30 = .ok (.invokestatic 35, 3) := by decide +kernel
theorem dX5_inSight_33 : decode cX5_inSight 33 = .ok (.istore 5, 2) := by decide +kernel
theorem dX5_inSight_35 : decode cX5_inSight 35 = .ok (.iconst 1, 1) := by decide +kernel
theorem dX5_inSight_36 : decode cX5_inSight 36 = .ok (.istore 6, 2) := by decide +kernel
theorem dX5_inSight_38 : decode cX5_inSight 38 = .ok (.iload 6, 2) := by decide +kernel
theorem dX5_inSight_40 : decode cX5_inSight 40 = .ok (.iload 5, 2) := by decide +kernel
theorem dX5_inSight_42 : decode cX5_inSight 42 = .ok (.if_icmp .ge 89, 3) := by decide +kernel
theorem dX5_inSight_45 : decode cX5_inSight 45 = .ok (.iload_n 1, 1) := by decide +kernel
theorem dX5_inSight_46 : decode cX5_inSight 46 = .ok (.bipush 12, 2) := by decide +kernel
theorem dX5_inSight_48 : decode cX5_inSight 48 = .ok (.irem, 1) := by decide +kernel
theorem dX5_inSight_49 : decode cX5_inSight 49 = .ok (.iload_n 3, 1) := by decide +kernel
theorem dX5_inSight_50 : decode cX5_inSight 50 = .ok (.iload 6, 2) := by decide +kernel
theorem dX5_inSight_52 : decode cX5_inSight 52 = .ok (.iload 5, 2) := by decide +kernel
theorem dX5_inSight_54 : decode cX5_inSight 54 = .ok (.invokestatic 38, 3) := by decide +kernel
theorem dX5_inSight_57 : decode cX5_inSight 57 = .ok (.istore 7, 2) := by decide +kernel
theorem dX5_inSight_59 : decode cX5_inSight 59 = .ok (.iload_n 1, 1) := by decide +kernel
theorem dX5_inSight_60 : decode cX5_inSight 60 = .ok (.bipush 12, 2) := by decide +kernel
theorem dX5_inSight_62 : decode cX5_inSight 62 = .ok (.idiv, 1) := by decide +kernel
theorem dX5_inSight_63 : decode cX5_inSight 63 = .ok (.iload 4, 2) := by decide +kernel
theorem dX5_inSight_65 : decode cX5_inSight 65 = .ok (.iload 6, 2) := by decide +kernel
theorem dX5_inSight_67 : decode cX5_inSight 67 = .ok (.iload 5, 2) := by decide +kernel
theorem dX5_inSight_69 : decode cX5_inSight 69 = .ok (.invokestatic 38, 3) := by decide +kernel
theorem dX5_inSight_72 : decode cX5_inSight 72 = .ok (.istore 8, 2) := by decide +kernel
theorem dX5_inSight_74 : decode cX5_inSight 74 = .ok (.aload_n 0, 1) := by decide +kernel
theorem dX5_inSight_75 : decode cX5_inSight 75 = .ok (.getfield 9, 3) := by decide +kernel
theorem dX5_inSight_78 : decode cX5_inSight 78 = .ok (.iload_n 1, 1) := by decide +kernel
theorem dX5_inSight_79 : decode cX5_inSight 79 = .ok (.iaload, 1) := by decide +kernel
theorem dX5_inSight_80 : decode cX5_inSight 80 = .ok (.iconst 1, 1) := by decide +kernel
theorem dX5_inSight_81 : decode cX5_inSight 81 = .ok (.iadd, 1) := by decide +kernel
theorem dX5_inSight_82 : decode cX5_inSight 82 = .ok (.iload 5, 2) := by decide +kernel
theorem dX5_inSight_84 : decode cX5_inSight 84 = .ok (.iload 6, 2) := by decide +kernel
theorem dX5_inSight_86 : decode cX5_inSight 86 = .ok (.isub, 1) := by decide +kernel
theorem dX5_inSight_87 : decode cX5_inSight 87 = .ok (.imul, 1) := by decide +kernel
theorem dX5_inSight_88 : decode cX5_inSight 88 = .ok (.aload_n 0, 1) := by decide +kernel
theorem dX5_inSight_89 : decode cX5_inSight 89 = .ok (.getfield 9, 3) := by decide +kernel
theorem dX5_inSight_92 : decode cX5_inSight 92 = .ok (.iload_n 2, 1) := by decide +kernel
theorem dX5_inSight_93 : decode cX5_inSight 93 = .ok (.iaload, 1) := by decide +kernel
theorem dX5_inSight_94 : decode cX5_inSight 94 = .ok (.iconst 1, 1) := by decide +kernel
theorem dX5_inSight_95 : decode cX5_inSight 95 = .ok (.iadd, 1) := by decide +kernel
theorem dX5_inSight_96 : decode cX5_inSight 96 = .ok (.iload 6, 2) := by decide +kernel
theorem dX5_inSight_98 : decode cX5_inSight 98 = .ok (.imul, 1) := by decide +kernel
theorem dX5_inSight_99 : decode cX5_inSight 99 = .ok (.iadd, 1) := by decide +kernel
theorem dX5_inSight_100 : decode cX5_inSight 100 = .ok (.istore 9, 2) := by decide +kernel
theorem dX5_inSight_102 : decode cX5_inSight 102 = .ok (.aload_n 0, 1) := by decide +kernel
theorem dX5_inSight_103 : decode cX5_inSight 103 = .ok (.getfield 9, 3) := by decide +kernel
theorem dX5_inSight_106 : decode cX5_inSight 106 = .ok (.bipush 12, 2) := by decide +kernel
theorem dX5_inSight_108 : decode cX5_inSight 108 = .ok (.iload 8, 2) := by decide +kernel
theorem dX5_inSight_110 : decode cX5_inSight 110 = .ok (.imul, 1) := by decide +kernel
theorem dX5_inSight_111 : decode cX5_inSight 111 = .ok (.iload 7, 2) := by decide +kernel
theorem dX5_inSight_113 : decode cX5_inSight 113 = .ok (.iadd, 1) := by decide +kernel
theorem dX5_inSight_114 : decode cX5_inSight 114 = .ok (.iaload, 1) := by decide +kernel
theorem dX5_inSight_115 : decode cX5_inSight 115 = .ok (.iload 5, 2) := by decide +kernel
theorem dX5_inSight_117 : decode cX5_inSight 117 = .ok (.imul, 1) := by decide +kernel
theorem dX5_inSight_118 : decode cX5_inSight 118 = .ok (.iload 9, 2) := by decide +kernel
theorem dX5_inSight_120 : decode cX5_inSight 120 = .ok (.if_icmp .le 5, 3) := by decide +kernel
theorem dX5_inSight_123 : decode cX5_inSight 123 = .ok (.iconst 0, 1) := by decide +kernel
theorem dX5_inSight_124 : decode cX5_inSight 124 = .ok (.ireturn, 1) := by decide +kernel
theorem dX5_inSight_125 : decode cX5_inSight 125 = .ok (.iinc 6 1, 3) := by decide +kernel
theorem dX5_inSight_128 : decode cX5_inSight 128 = .ok (.goto (-90), 3) := by decide +kernel
theorem dX5_inSight_131 : decode cX5_inSight 131 = .ok (.iconst 1, 1) := by decide +kernel
theorem dX5_inSight_132 : decode cX5_inSight 132 = .ok (.ireturn, 1) := by decide +kernel
theorem dX0_ridingTurns_0 : decode cX0_ridingTurns 0 = .ok (.iload_n 0, 1) := by decide +kernel
theorem dX0_ridingTurns_1 : decode cX0_ridingTurns 1 = .ok (.iconst (-1), 1) := by decide +kernel
theorem dX0_ridingTurns_2 : decode cX0_ridingTurns 2 = .ok (.if_icmp .ne 7, 3) := by decide +kernel
theorem dX0_ridingTurns_5 : decode cX0_ridingTurns 5 = .ok (.iconst (-1), 1) := by decide +kernel
theorem dX0_ridingTurns_6 : decode cX0_ridingTurns 6 = .ok (.goto 12, 3) := by decide +kernel
theorem dX0_ridingTurns_9 : decode cX0_ridingTurns 9 = .ok (.iconst 1, 1) := by decide +kernel
theorem dX0_ridingTurns_10 : decode cX0_ridingTurns 10 = .ok (.iload_n 0, 1) := by decide +kernel
theorem dX0_ridingTurns_11 : decode cX0_ridingTurns 11 = .ok (.iconst 2, 1) := by decide +kernel
theorem dX0_ridingTurns_12 : decode cX0_ridingTurns 12 = .ok (.iadd, 1) := by decide +kernel
theorem dX0_ridingTurns_13 : decode cX0_ridingTurns 13 = .ok (.iconst 3, 1) := by decide +kernel
theorem dX0_ridingTurns_14 : decode cX0_ridingTurns 14 = .ok (.idiv, 1) := by decide +kernel
theorem dX0_ridingTurns_15 : decode cX0_ridingTurns 15 = .ok (.invokestatic 88, 3) := by decide +kernel
theorem dX0_ridingTurns_18 : decode cX0_ridingTurns 18 = .ok (.ireturn, 1) := by decide +kernel
theorem dX0_turnsTo_0 : decode cX0_turnsTo 0 = .ok (.aload_n 1, 1) := by decide +kernel
theorem dX0_turnsTo_1 : decode cX0_turnsTo 1 = .ok (.getfield 29, 3) := by decide +kernel
theorem dX0_turnsTo_4 : decode cX0_turnsTo 4 = .ok (.iload_n 2, 1) := by decide +kernel
theorem dX0_turnsTo_5 : decode cX0_turnsTo 5 = .ok (.aaload, 1) := by decide +kernel
theorem dX0_turnsTo_6 : decode cX0_turnsTo 6 = .ok (.astore_n 3, 1) := by decide +kernel
theorem dX0_turnsTo_7 : decode cX0_turnsTo 7 = .ok (.aload_n 1, 1) := by decide +kernel
theorem dX0_turnsTo_8 : decode cX0_turnsTo 8 = .ok (.getfield 35, 3) := by decide +kernel
theorem dX0_turnsTo_11 : decode cX0_turnsTo 11 = .ok (.aload_n 3, 1) := by decide +kernel
theorem dX0_turnsTo_12 : decode cX0_turnsTo 12 = .ok (.getfield 38, 3) := by decide +kernel
theorem dX0_turnsTo_15 : decode cX0_turnsTo 15 = .ok (.iaload, 1) := by decide +kernel
theorem dX0_turnsTo_16 : decode cX0_turnsTo 16 = .ok (.istore 4, 2) := by decide +kernel
theorem dX0_turnsTo_18 : decode cX0_turnsTo 18 = .ok (.aload_n 1, 1) := by decide +kernel
theorem dX0_turnsTo_19 : decode cX0_turnsTo 19 = .ok (.getfield 44, 3) := by decide +kernel
theorem dX0_turnsTo_22 : decode cX0_turnsTo 22 = .ok (.iload 4, 2) := by decide +kernel
theorem dX0_turnsTo_24 : decode cX0_turnsTo 24 = .ok (.aload_n 3, 1) := by decide +kernel
theorem dX0_turnsTo_25 : decode cX0_turnsTo 25 = .ok (.getfield 48, 3) := by decide +kernel
theorem dX0_turnsTo_28 : decode cX0_turnsTo 28 = .ok (.invokevirtual 51, 3) := by decide +kernel
theorem dX0_turnsTo_31 : decode cX0_turnsTo 31 = .ok (.ifCond .eq 5, 3) := by decide +kernel
theorem dX0_turnsTo_34 : decode cX0_turnsTo 34 = .ok (.iconst 1, 1) := by decide +kernel
theorem dX0_turnsTo_35 : decode cX0_turnsTo 35 = .ok (.ireturn, 1) := by decide +kernel
theorem dX0_turnsTo_36 : decode cX0_turnsTo 36 = .ok (.aload_n 0, 1) := by decide +kernel
theorem dX0_turnsTo_37 : decode cX0_turnsTo 37 = .ok (.aload_n 1, 1) := by decide +kernel
theorem dX0_turnsTo_38 : decode cX0_turnsTo 38 = .ok (.getfield 44, 3) := by decide +kernel
theorem dX0_turnsTo_41 : decode cX0_turnsTo 41 = .ok (.iload 4, 2) := by decide +kernel
theorem dX0_turnsTo_43 : decode cX0_turnsTo 43 = .ok (.aload_n 3, 1) := by decide +kernel
theorem dX0_turnsTo_44 : decode cX0_turnsTo 44 = .ok (.getfield 48, 3) := by decide +kernel
theorem dX0_turnsTo_47 : decode cX0_turnsTo 47 = .ok (.invokevirtual 57, 3) := by decide +kernel
theorem dX0_turnsTo_50 : decode cX0_turnsTo 50 = .ok (.invokestatic 61, 3) := by decide +kernel
theorem dX0_turnsTo_53 : decode cX0_turnsTo 53 = .ok (.ireturn, 1) := by decide +kernel
theorem dX0_refusal_0 : decode cX0_refusal 0 = .ok (.aload_n 1, 1) := by decide +kernel
theorem dX0_refusal_1 : decode cX0_refusal 1 = .ok (.getfield 29, 3) := by decide +kernel
theorem dX0_refusal_4 : decode cX0_refusal 4 = .ok (.iload_n 2, 1) := by decide +kernel
theorem dX0_refusal_5 : decode cX0_refusal 5 = .ok (.aaload, 1) := by decide +kernel
theorem dX0_refusal_6 : decode cX0_refusal 6 = .ok (.getfield 65, 3) := by decide +kernel
theorem dX0_refusal_9 : decode cX0_refusal 9 = .ok (.iconst 2, 1) := by decide +kernel
theorem dX0_refusal_10 : decode cX0_refusal 10 = .ok (.if_icmp .ne 5, 3) := by decide +kernel
theorem dX0_refusal_13 : decode cX0_refusal 13 = .ok (.iconst 1, 1) := by decide +kernel
theorem dX0_refusal_14 : decode cX0_refusal 14 = .ok (.ireturn, 1) := by decide +kernel
theorem dX0_refusal_15 : decode cX0_refusal 15 = .ok (.aload_n 0, 1) := by decide +kernel
theorem dX0_refusal_16 : decode cX0_refusal 16 = .ok (.aload_n 1, 1) := by decide +kernel
theorem dX0_refusal_17 : decode cX0_refusal 17 = .ok (.iload_n 2, 1) := by decide +kernel
theorem dX0_refusal_18 : decode cX0_refusal 18 = .ok (.invokevirtual 68, 3) := by decide +kernel
theorem dX0_refusal_21 : decode cX0_refusal 21 = .ok (.iconst (-1), 1) := by decide +kernel
theorem dX0_refusal_22 : decode cX0_refusal 22 = .ok (.if_icmp .ne 5, 3) := by decide +kernel
theorem dX0_refusal_25 : decode cX0_refusal 25 = .ok (.iconst 2, 1) := by decide +kernel
theorem dX0_refusal_26 : decode cX0_refusal 26 = .ok (.ireturn, 1) := by decide +kernel
theorem dX0_refusal_27 : decode cX0_refusal 27 = .ok (.aload_n 1, 1) := by decide +kernel
theorem dX0_refusal_28 : decode cX0_refusal 28 = .ok (.getfield 72, 3) := by decide +kernel
theorem dX0_refusal_31 : decode cX0_refusal 31 = .ok (.bipush 30, 2) := by decide +kernel
theorem dX0_refusal_33 : decode cX0_refusal 33 = .ok (.if_icmp .lt 7, 3) := by decide +kernel
theorem dX0_refusal_36 : decode cX0_refusal 36 = .ok (.iconst 3, 1) := by decide +kernel
theorem dX0_refusal_37 : decode cX0_refusal 37 = .ok (.goto 4, 3) := by decide +kernel
theorem dX0_refusal_40 : decode cX0_refusal 40 = .ok (.iconst 0, 1) := by decide +kernel
theorem dX0_refusal_41 : decode cX0_refusal 41 = .ok (.ireturn, 1) := by decide +kernel
theorem dX5_init_0 : decode cX5_init 0 = .ok (.aload_n 0, 1) := by decide +kernel
theorem dX5_init_1 : decode cX5_init 1 = .ok (.invokespecial 3, 3) := by decide +kernel
theorem dX5_init_4 : decode cX5_init 4 = .ok (.aload_n 0, 1) := by decide +kernel
theorem dX5_init_5 : decode cX5_init 5 = .ok (.bipush 96, 2) := by decide +kernel
theorem dX5_init_7 : decode cX5_init 7 = .ok (.newarray .int, 2) := by decide +kernel
theorem dX5_init_9 : decode cX5_init 9 = .ok (.putfield 9, 3) := by decide +kernel
theorem dX5_init_12 : decode cX5_init 12 = .ok (.return_, 1) := by decide +kernel
theorem dX7_init_0 : decode cX7_init 0 = .ok (.aload_n 0, 1) := by decide +kernel
theorem dX7_init_1 : decode cX7_init 1 = .ok (.invokespecial 3, 3) := by decide +kernel
theorem dX7_init_4 : decode cX7_init 4 = .ok (.return_, 1) := by decide +kernel
theorem dX3_init_0 : decode cX3_init 0 = .ok (.aload_n 0, 1) := by decide +kernel
theorem dX3_init_1 : decode cX3_init 1 = .ok (.invokespecial 1, 3) := by decide +kernel
theorem dX3_init_4 : decode cX3_init 4 = .ok (.return_, 1) := by decide +kernel
theorem dX8_init_0 : decode cX8_init 0 = .ok (.aload_n 0, 1) := by decide +kernel
theorem dX8_init_1 : decode cX8_init 1 = .ok (.invokespecial 3, 3) := by decide +kernel
theorem dX8_init_4 : decode cX8_init 4 = .ok (.aload_n 0, 1) := by decide +kernel
theorem dX8_init_5 : decode cX8_init 5 = .ok (.new 9, 3) := by decide +kernel
theorem dX8_init_8 : decode cX8_init 8 = .ok (.dup, 1) := by decide +kernel
theorem dX8_init_9 : decode cX8_init 9 = .ok (.invokespecial 11, 3) := by decide +kernel
theorem dX8_init_12 : decode cX8_init 12 = .ok (.putfield 12, 3) := by decide +kernel
theorem dX8_init_15 : decode cX8_init 15 = .ok (.aload_n 0, 1) := by decide +kernel
theorem dX8_init_16 : decode cX8_init 16 = .ok (.iconst 2, 1) := by decide +kernel
theorem dX8_init_17 : decode cX8_init 17 = .ok (.newarray .int, 2) := by decide +kernel
theorem dX8_init_19 : decode cX8_init 19 = .ok (.putfield 18, 3) := by decide +kernel
theorem dX8_init_22 : decode cX8_init 22 = .ok (.aload_n 0, 1) := by decide +kernel
theorem dX8_init_23 : decode cX8_init 23 = .ok (.bipush 12, 2) := by decide +kernel
theorem dX8_init_25 : decode cX8_init 25 = .ok (.anewarray 22, 3) := by decide +kernel
theorem dX8_init_28 : decode cX8_init 28 = .ok (.putfield 24, 3) := by decide +kernel
theorem dX8_init_31 : decode cX8_init 31 = .ok (.aload_n 0, 1) := by decide +kernel
theorem dX8_init_32 : decode cX8_init 32 = .ok (.bipush 30, 2) := by decide +kernel
theorem dX8_init_34 : decode cX8_init 34 = .ok (.anewarray 28, 3) := by decide +kernel
theorem dX8_init_37 : decode cX8_init 37 = .ok (.putfield 30, 3) := by decide +kernel
theorem dX8_init_40 : decode cX8_init 40 = .ok (.aload_n 0, 1) := by decide +kernel
theorem dX8_init_41 : decode cX8_init 41 = .ok (.iconst 2, 1) := by decide +kernel
theorem dX8_init_42 : decode cX8_init 42 = .ok (.newarray .int, 2) := by decide +kernel
theorem dX8_init_44 : decode cX8_init 44 = .ok (.putfield 34, 3) := by decide +kernel
theorem dX8_init_47 : decode cX8_init 47 = .ok (.aload_n 0, 1) := by decide +kernel
theorem dX8_init_48 : decode cX8_init 48 = .ok (.getfield 18, 3) := by decide +kernel
theorem dX8_init_51 : decode cX8_init 51 = .ok (.iconst 1, 1) := by decide +kernel
theorem dX8_init_52 : decode cX8_init 52 = .ok (.bipush 95, 2) := by decide +kernel
theorem dX8_init_54 : decode cX8_init 54 = .ok (.iastore, 1) := by decide +kernel
theorem dX8_init_55 : decode cX8_init 55 = .ok (.iconst 0, 1) := by decide +kernel
theorem dX8_init_56 : decode cX8_init 56 = .ok (.istore_n 1, 1) := by decide +kernel
theorem dX8_init_57 : decode cX8_init 57 = .ok (.iload_n 1, 1) := by decide +kernel
theorem dX8_init_58 : decode cX8_init 58 = .ok (.bipush 12, 2) := by decide +kernel
theorem dX8_init_60 : decode cX8_init 60 = .ok (.if_icmp .ge 22, 3) := by decide +kernel
theorem dX8_init_63 : decode cX8_init 63 = .ok (.aload_n 0, 1) := by decide +kernel
theorem dX8_init_64 : decode cX8_init 64 = .ok (.getfield 24, 3) := by decide +kernel
theorem dX8_init_67 : decode cX8_init 67 = .ok (.iload_n 1, 1) := by decide +kernel
theorem dX8_init_68 : decode cX8_init 68 = .ok (.new 22, 3) := by decide +kernel
theorem dX8_init_71 : decode cX8_init 71 = .ok (.dup, 1) := by decide +kernel
theorem dX8_init_72 : decode cX8_init 72 = .ok (.invokespecial 37, 3) := by decide +kernel
theorem dX8_init_75 : decode cX8_init 75 = .ok (.aastore, 1) := by decide +kernel
theorem dX8_init_76 : decode cX8_init 76 = .ok (.iinc 1 1, 3) := by decide +kernel
theorem dX8_init_79 : decode cX8_init 79 = .ok (.goto (-22), 3) := by decide +kernel
theorem dX8_init_82 : decode cX8_init 82 = .ok (.iconst 0, 1) := by decide +kernel
theorem dX8_init_83 : decode cX8_init 83 = .ok (.istore_n 1, 1) := by decide +kernel
theorem dX8_init_84 : decode cX8_init 84 = .ok (.iload_n 1, 1) := by decide +kernel
theorem dX8_init_85 : decode cX8_init 85 = .ok (.bipush 30, 2) := by decide +kernel
theorem dX8_init_87 : decode cX8_init 87 = .ok (.if_icmp .ge 22, 3) := by decide +kernel
theorem dX8_init_90 : decode cX8_init 90 = .ok (.aload_n 0, 1) := by decide +kernel
theorem dX8_init_91 : decode cX8_init 91 = .ok (.getfield 30, 3) := by decide +kernel
theorem dX8_init_94 : decode cX8_init 94 = .ok (.iload_n 1, 1) := by decide +kernel
theorem dX8_init_95 : decode cX8_init 95 = .ok (.new 28, 3) := by decide +kernel
theorem dX8_init_98 : decode cX8_init 98 = .ok (.dup, 1) := by decide +kernel
theorem dX8_init_99 : decode cX8_init 99 = .ok (.invokespecial 38, 3) := by decide +kernel
theorem dX8_init_102 : decode cX8_init 102 = .ok (.aastore, 1) := by decide +kernel
theorem dX8_init_103 : decode cX8_init 103 = .ok (.iinc 1 1, 3) := by decide +kernel
theorem dX8_init_106 : decode cX8_init 106 = .ok (.goto (-22), 3) := by decide +kernel
theorem dX8_init_109 : decode cX8_init 109 = .ok (.return_, 1) := by decide +kernel
theorem dX1_init_0 : decode cX1_init 0 = .ok (.aload_n 0, 1) := by decide +kernel
theorem dX1_init_1 : decode cX1_init 1 = .ok (.invokespecial 3, 3) := by decide +kernel
theorem dX1_init_4 : decode cX1_init 4 = .ok (.aload_n 0, 1) := by decide +kernel
theorem dX1_init_5 : decode cX1_init 5 = .ok (.iconst 5, 1) := by decide +kernel
theorem dX1_init_6 : decode cX1_init 6 = .ok (.anewarray 9, 3) := by decide +kernel
theorem dX1_init_9 : decode cX1_init 9 = .ok (.putfield 11, 3) := by decide +kernel
theorem dX1_init_12 : decode cX1_init 12 = .ok (.iconst 0, 1) := by decide +kernel
theorem dX1_init_13 : decode cX1_init 13 = .ok (.istore_n 1, 1) := by decide +kernel
theorem dX1_init_14 : decode cX1_init 14 = .ok (.iload_n 1, 1) := by decide +kernel
theorem dX1_init_15 : decode cX1_init 15 = .ok (.iconst 5, 1) := by decide +kernel
theorem dX1_init_16 : decode cX1_init 16 = .ok (.if_icmp .ge 22, 3) := by decide +kernel
theorem dX1_init_19 : decode cX1_init 19 = .ok (.aload_n 0, 1) := by decide +kernel
theorem dX1_init_20 : decode cX1_init 20 = .ok (.getfield 11, 3) := by decide +kernel
theorem dX1_init_23 : decode cX1_init 23 = .ok (.iload_n 1, 1) := by decide +kernel
theorem dX1_init_24 : decode cX1_init 24 = .ok (.new 9, 3) := by decide +kernel
theorem dX1_init_27 : decode cX1_init 27 = .ok (.dup, 1) := by decide +kernel
theorem dX1_init_28 : decode cX1_init 28 = .ok (.invokespecial 17, 3) := by decide +kernel
theorem dX1_init_31 : decode cX1_init 31 = .ok (.aastore, 1) := by decide +kernel
theorem dX1_init_32 : decode cX1_init 32 = .ok (.iinc 1 1, 3) := by decide +kernel
theorem dX1_init_35 : decode cX1_init 35 = .ok (.goto (-21), 3) := by decide +kernel
theorem dX1_init_38 : decode cX1_init 38 = .ok (.return_, 1) := by decide +kernel
theorem dX1_dropOldest_0 : decode cX1_dropOldest 0 = .ok (.aload_n 0, 1) := by decide +kernel
theorem dX1_dropOldest_1 : decode cX1_dropOldest 1 = .ok (.getfield 11, 3) := by decide +kernel
theorem dX1_dropOldest_4 : decode cX1_dropOldest 4 = .ok (.iconst 0, 1) := by decide +kernel
theorem dX1_dropOldest_5 : decode cX1_dropOldest 5 = .ok (.aaload, 1) := by decide +kernel
theorem dX1_dropOldest_6 : decode cX1_dropOldest 6 = .ok (.astore_n 1, 1) := by decide +kernel
theorem dX1_dropOldest_7 : decode cX1_dropOldest 7 = .ok (.iconst 1, 1) := by decide +kernel
theorem dX1_dropOldest_8 : decode cX1_dropOldest 8 = .ok (.istore_n 2, 1) := by decide +kernel
theorem dX1_dropOldest_9 : decode cX1_dropOldest 9 = .ok (.iload_n 2, 1) := by decide +kernel
theorem dX1_dropOldest_10 : decode cX1_dropOldest 10 = .ok (.iconst 5, 1) := by decide +kernel
theorem dX1_dropOldest_11 : decode cX1_dropOldest 11 = .ok (.if_icmp .ge 23, 3) := by decide +kernel
theorem dX1_dropOldest_14 : decode cX1_dropOldest 14 = .ok (.aload_n 0, 1) := by decide +kernel
theorem dX1_dropOldest_15 : decode cX1_dropOldest 15 = .ok (.getfield 11, 3) := by decide +kernel
theorem dX1_dropOldest_18 : decode cX1_dropOldest 18 = .ok (.iload_n 2, 1) := by decide +kernel
theorem dX1_dropOldest_19 : decode cX1_dropOldest 19 = .ok (.iconst 1, 1) := by decide +kernel
theorem dX1_dropOldest_20 : decode cX1_dropOldest 20 = .ok (.isub, 1) := by decide +kernel
theorem dX1_dropOldest_21 : decode cX1_dropOldest 21 = .ok (.aload_n 0, 1) := by decide +kernel
theorem dX1_dropOldest_22 : decode cX1_dropOldest 22 = .ok (.getfield 11, 3) := by decide +kernel
theorem dX1_dropOldest_25 : decode cX1_dropOldest 25 = .ok (.iload_n 2, 1) := by decide +kernel
theorem dX1_dropOldest_26 : decode cX1_dropOldest 26 = .ok (.aaload, 1) := by decide +kernel
theorem dX1_dropOldest_27 : decode cX1_dropOldest 27 = .ok (.aastore, 1) := by decide +kernel
theorem dX1_dropOldest_28 : decode cX1_dropOldest 28 = .ok (.iinc 2 1, 3) := by decide +kernel
theorem dX1_dropOldest_31 : decode cX1_dropOldest 31 = .ok (.goto (-22), 3) := by decide +kernel
theorem dX1_dropOldest_34 : decode cX1_dropOldest 34 = .ok (.aload_n 0, 1) := by decide +kernel
theorem dX1_dropOldest_35 : decode cX1_dropOldest 35 = .ok (.getfield 11, 3) := by decide +kernel
theorem dX1_dropOldest_38 : decode cX1_dropOldest 38 = .ok (.iconst 4, 1) := by decide +kernel
theorem dX1_dropOldest_39 : decode cX1_dropOldest 39 = .ok (.aload_n 1, 1) := by decide +kernel
theorem dX1_dropOldest_40 : decode cX1_dropOldest 40 = .ok (.aastore, 1) := by decide +kernel
theorem dX1_dropOldest_41 : decode cX1_dropOldest 41 = .ok (.aload_n 0, 1) := by decide +kernel
theorem dX1_dropOldest_42 : decode cX1_dropOldest 42 = .ok (.dup, 1) := by decide +kernel
theorem dX1_dropOldest_43 : decode cX1_dropOldest 43 = .ok (.getfield 18, 3) := by decide +kernel
theorem dX1_dropOldest_46 : decode cX1_dropOldest 46 = .ok (.iconst 1, 1) := by decide +kernel
theorem dX1_dropOldest_47 : decode cX1_dropOldest 47 = .ok (.isub, 1) := by decide +kernel
theorem dX1_dropOldest_48 : decode cX1_dropOldest 48 = .ok (.putfield 18, 3) := by decide +kernel
theorem dX1_dropOldest_51 : decode cX1_dropOldest 51 = .ok (.return_, 1) := by decide +kernel
theorem dX5_copyFrom_0 : decode cX5_copyFrom 0 = .ok (.aload_n 1, 1) := by decide +kernel
theorem dX5_copyFrom_1 : decode cX5_copyFrom 1 = .ok (.getfield 9, 3) := by decide +kernel
theorem dX5_copyFrom_4 : decode cX5_copyFrom 4 = .ok (.iconst 0, 1) := by decide +kernel
theorem dX5_copyFrom_5 : decode cX5_copyFrom 5 = .ok (.aload_n 0, 1) := by decide +kernel
theorem dX5_copyFrom_6 : decode cX5_copyFrom 6 = .ok (.getfield 9, 3) := by decide +kernel
theorem dX5_copyFrom_9 : decode cX5_copyFrom 9 = .ok (.iconst 0, 1) := by decide +kernel
theorem dX5_copyFrom_10 : decode cX5_copyFrom 10 = .ok (.bipush 96, 2) := by decide +kernel
theorem dX5_copyFrom_12 : decode cX5_copyFrom 12 = .ok (.invokestatic 15, 3) := by decide +kernel
theorem dX5_copyFrom_15 : decode cX5_copyFrom 15 = .ok (.return_, 1) := by decide +kernel
theorem dX7_copyFrom_0 : decode cX7_copyFrom 0 = .ok (.aload_n 0, 1) := by decide +kernel
theorem dX7_copyFrom_1 : decode cX7_copyFrom 1 = .ok (.aload_n 1, 1) := by decide +kernel
theorem dX7_copyFrom_2 : decode cX7_copyFrom 2 = .ok (.getfield 9, 3) := by decide +kernel
theorem dX7_copyFrom_5 : decode cX7_copyFrom 5 = .ok (.putfield 9, 3) := by decide +kernel
theorem dX7_copyFrom_8 : decode cX7_copyFrom 8 = .ok (.aload_n 0, 1) := by decide +kernel
theorem dX7_copyFrom_9 : decode cX7_copyFrom 9 = .ok (.aload_n 1, 1) := by decide +kernel
theorem dX7_copyFrom_10 : decode cX7_copyFrom 10 = .ok (.getfield 15, 3) := by decide +kernel
theorem dX7_copyFrom_13 : decode cX7_copyFrom 13 = .ok (.putfield 15, 3) := by decide +kernel
theorem dX7_copyFrom_16 : decode cX7_copyFrom 16 = .ok (.aload_n 0, 1) := by decide +kernel
theorem dX7_copyFrom_17 : decode cX7_copyFrom 17 = .ok (.aload_n 1, 1) := by decide +kernel
theorem dX7_copyFrom_18 : decode cX7_copyFrom 18 = .ok (.getfield 18, 3) := by decide +kernel
theorem dX7_copyFrom_21 : decode cX7_copyFrom 21 = .ok (.putfield 18, 3) := by decide +kernel
theorem dX7_copyFrom_24 : decode cX7_copyFrom 24 = .ok (.aload_n 0, 1) := by decide +kernel
theorem dX7_copyFrom_25 : decode cX7_copyFrom 25 = .ok (.aload_n 1, 1) := by decide +kernel
theorem dX7_copyFrom_26 : decode cX7_copyFrom 26 = .ok (.getfield 21, 3) := by decide +kernel
theorem dX7_copyFrom_29 : decode cX7_copyFrom 29 = .ok (.putfield 21, 3) := by decide +kernel
theorem dX7_copyFrom_32 : decode cX7_copyFrom 32 = .ok (.aload_n 0, 1) := by decide +kernel
theorem dX7_copyFrom_33 : decode cX7_copyFrom 33 = .ok (.aload_n 1, 1) := by decide +kernel
theorem dX7_copyFrom_34 : decode cX7_copyFrom 34 = .ok (.getfield 24, 3) := by decide +kernel
theorem dX7_copyFrom_37 : decode cX7_copyFrom 37 = .ok (.putfield 24, 3) := by decide +kernel
theorem dX7_copyFrom_40 : decode cX7_copyFrom 40 = .ok (.aload_n 0, 1) := by decide +kernel
theorem dX7_copyFrom_41 : decode cX7_copyFrom 41 = .ok (.aload_n 1, 1) := by decide +kernel
theorem dX7_copyFrom_42 : decode cX7_copyFrom 42 = .ok (.getfield 27, 3) := by decide +kernel
theorem dX7_copyFrom_45 : decode cX7_copyFrom 45 = .ok (.putfield 27, 3) := by decide +kernel
theorem dX7_copyFrom_48 : decode cX7_copyFrom 48 = .ok (.aload_n 0, 1) := by decide +kernel
theorem dX7_copyFrom_49 : decode cX7_copyFrom 49 = .ok (.aload_n 1, 1) := by decide +kernel
theorem dX7_copyFrom_50 : decode cX7_copyFrom 50 = .ok (.getfield 30, 3) := by decide +kernel
theorem dX7_copyFrom_53 : decode cX7_copyFrom 53 = .ok (.putfield 30, 3) := by decide +kernel
theorem dX7_copyFrom_56 : decode cX7_copyFrom 56 = .ok (.aload_n 0, 1) := by decide +kernel
theorem dX7_copyFrom_57 : decode cX7_copyFrom 57 = .ok (.aload_n 1, 1) := by decide +kernel
theorem dX7_copyFrom_58 : decode cX7_copyFrom 58 = .ok (.getfield 33, 3) := by decide +kernel
theorem dX7_copyFrom_61 : decode cX7_copyFrom 61 = .ok (.putfield 33, 3) := by decide +kernel
theorem dX7_copyFrom_64 : decode cX7_copyFrom 64 = .ok (.return_, 1) := by decide +kernel
theorem dX3_write_0 : decode cX3_write 0 = .ok (.aload_n 0, 1) := by decide +kernel
theorem dX3_write_1 : decode cX3_write 1 = .ok (.iload_n 1, 1) := by decide +kernel
theorem dX3_write_2 : decode cX3_write 2 = .ok (.putfield 7, 3) := by decide +kernel
theorem dX3_write_5 : decode cX3_write 5 = .ok (.aload_n 0, 1) := by decide +kernel
theorem dX3_write_6 : decode cX3_write 6 = .ok (.iload_n 2, 1) := by decide +kernel
theorem dX3_write_7 : decode cX3_write 7 = .ok (.putfield 13, 3) := by decide +kernel
theorem dX3_write_10 : decode cX3_write 10 = .ok (.aload_n 0, 1) := by decide +kernel
theorem dX3_write_11 : decode cX3_write 11 = .ok (.iload_n 3, 1) := by decide +kernel
theorem dX3_write_12 : decode cX3_write 12 = .ok (.putfield 16, 3) := by decide +kernel
theorem dX3_write_15 : decode cX3_write 15 = .ok (.aload_n 0, 1) := by decide +kernel
theorem dX3_write_16 : decode cX3_write 16 = .ok (.iload 4, 2) := by decide +kernel
theorem dX3_write_18 : decode cX3_write 18 = .ok (.putfield 19, 3) := by decide +kernel
theorem dX3_write_21 : decode cX3_write 21 = .ok (.return_, 1) := by decide +kernel
theorem dX3_copyFrom_0 : decode cX3_copyFrom 0 = .ok (.aload_n 0, 1) := by decide +kernel
theorem dX3_copyFrom_1 : decode cX3_copyFrom 1 = .ok (.aload_n 1, 1) := by decide +kernel
theorem dX3_copyFrom_2 : decode cX3_copyFrom 2 = .ok (.getfield 7, 3) := by decide +kernel
theorem dX3_copyFrom_5 : decode cX3_copyFrom 5 = .ok (.aload_n 1, 1) := by decide +kernel
theorem dX3_copyFrom_6 : decode cX3_copyFrom 6 = .ok (.getfield 13, 3) := by decide +kernel
theorem dX3_copyFrom_9 : decode cX3_copyFrom 9 = .ok (.aload_n 1, 1) := by decide +kernel
theorem dX3_copyFrom_10 : decode cX3_copyFrom 10 = .ok (.getfield 16, 3) := by decide +kernel
theorem dX3_copyFrom_13 : decode cX3_copyFrom 13 = .ok (.aload_n 1, 1) := by decide +kernel
theorem dX3_copyFrom_14 : decode cX3_copyFrom 14 = .ok (.getfield 19, 3) := by decide +kernel
theorem dX3_copyFrom_17 : decode cX3_copyFrom 17 = .ok (.invokevirtual 22, 3) := by decide +kernel
theorem dX3_copyFrom_20 : decode cX3_copyFrom 20 = .ok (.return_, 1) := by decide +kernel
theorem dX8_copyFrom_0 : decode cX8_copyFrom 0 = .ok (.aload_n 0, 1) := by decide +kernel
theorem dX8_copyFrom_1 : decode cX8_copyFrom 1 = .ok (.getfield 12, 3) := by decide +kernel
theorem dX8_copyFrom_4 : decode cX8_copyFrom 4 = .ok (.aload_n 1, 1) := by decide +kernel
theorem dX8_copyFrom_5 : decode cX8_copyFrom 5 = .ok (.getfield 12, 3) := by decide +kernel
theorem dX8_copyFrom_8 : decode cX8_copyFrom 8 = .ok (.invokevirtual 39, 3) := by decide +kernel
theorem dX8_copyFrom_11 : decode cX8_copyFrom 11 = .ok (.iconst 0, 1) := by decide +kernel
theorem dX8_copyFrom_12 : decode cX8_copyFrom 12 = .ok (.istore_n 2, 1) := by decide +kernel
theorem dX8_copyFrom_13 : decode cX8_copyFrom 13 = .ok (.iload_n 2, 1) := by decide +kernel
theorem dX8_copyFrom_14 : decode cX8_copyFrom 14 = .ok (.iconst 2, 1) := by decide +kernel
theorem dX8_copyFrom_15 : decode cX8_copyFrom 15 = .ok (.if_icmp .ge 33, 3) := by decide +kernel
theorem dX8_copyFrom_18 : decode cX8_copyFrom 18 = .ok (.aload_n 0, 1) := by decide +kernel
theorem dX8_copyFrom_19 : decode cX8_copyFrom 19 = .ok (.getfield 18, 3) := by decide +kernel
theorem dX8_copyFrom_22 : decode cX8_copyFrom 22 = .ok (.iload_n 2, 1) := by decide +kernel
theorem dX8_copyFrom_23 : decode cX8_copyFrom 23 = .ok (.aload_n 1, 1) := by decide +kernel
theorem dX8_copyFrom_24 : decode cX8_copyFrom 24 = .ok (.getfield 18, 3) := by decide +kernel
theorem dX8_copyFrom_27 : decode cX8_copyFrom 27 = .ok (.iload_n 2, 1) := by decide +kernel
theorem dX8_copyFrom_28 : decode cX8_copyFrom 28 = .ok (.iaload, 1) := by decide +kernel
theorem dX8_copyFrom_29 : decode cX8_copyFrom 29 = .ok (.iastore, 1) := by decide +kernel
theorem dX8_copyFrom_30 : decode cX8_copyFrom 30 = .ok (.aload_n 0, 1) := by decide +kernel
theorem dX8_copyFrom_31 : decode cX8_copyFrom 31 = .ok (.getfield 34, 3) := by decide +kernel
theorem dX8_copyFrom_34 : decode cX8_copyFrom 34 = .ok (.iload_n 2, 1) := by decide +kernel
theorem dX8_copyFrom_35 : decode cX8_copyFrom 35 = .ok (.aload_n 1, 1) := by decide +kernel
theorem dX8_copyFrom_36 : decode cX8_copyFrom 36 = .ok (.getfield 34, 3) := by decide +kernel
theorem dX8_copyFrom_39 : decode cX8_copyFrom 39 = .ok (.iload_n 2, 1) := by decide +kernel
theorem dX8_copyFrom_40 : decode cX8_copyFrom 40 = .ok (.iaload, 1) := by decide +kernel
theorem dX8_copyFrom_41 : decode cX8_copyFrom 41 = .ok (.iastore, 1) := by decide +kernel
theorem dX8_copyFrom_42 : decode cX8_copyFrom 42 = .ok (.iinc 2 1, 3) := by decide +kernel
theorem dX8_copyFrom_45 : decode cX8_copyFrom 45 = .ok (.goto (-32), 3) := by decide +kernel
theorem dX8_copyFrom_48 : decode cX8_copyFrom 48 = .ok (.aload_n 0, 1) := by decide +kernel
theorem dX8_copyFrom_49 : decode cX8_copyFrom 49 = .ok (.aload_n 1, 1) := by decide +kernel
theorem dX8_copyFrom_50 : decode cX8_copyFrom 50 = .ok (.getfield 43, 3) := by decide +kernel
theorem dX8_copyFrom_53 : decode cX8_copyFrom 53 = .ok (.putfield 43, 3) := by decide +kernel
theorem dX8_copyFrom_56 : decode cX8_copyFrom 56 = .ok (.iconst 0, 1) := by decide +kernel
theorem dX8_copyFrom_57 : decode cX8_copyFrom 57 = .ok (.istore_n 2, 1) := by decide +kernel
theorem dX8_copyFrom_58 : decode cX8_copyFrom 58 = .ok (.iload_n 2, 1) := by decide +kernel
theorem dX8_copyFrom_59 : decode cX8_copyFrom 59 = .ok (.aload_n 0, 1) := by decide +kernel
theorem dX8_copyFrom_60 : decode cX8_copyFrom 60 = .ok (.getfield 43, 3) := by decide +kernel
theorem dX8_copyFrom_63 : decode cX8_copyFrom 63 = .ok (.if_icmp .ge 24, 3) := by decide +kernel
theorem dX8_copyFrom_66 : decode cX8_copyFrom 66 = .ok (.aload_n 0, 1) := by decide +kernel
theorem dX8_copyFrom_67 : decode cX8_copyFrom 67 = .ok (.getfield 24, 3) := by decide +kernel
theorem dX8_copyFrom_70 : decode cX8_copyFrom 70 = .ok (.iload_n 2, 1) := by decide +kernel
theorem dX8_copyFrom_71 : decode cX8_copyFrom 71 = .ok (.aaload, 1) := by decide +kernel
theorem dX8_copyFrom_72 : decode cX8_copyFrom 72 = .ok (.aload_n 1, 1) := by decide +kernel
theorem dX8_copyFrom_73 : decode cX8_copyFrom 73 = .ok (.getfield 24, 3) := by decide +kernel
theorem dX8_copyFrom_76 : decode cX8_copyFrom 76 = .ok (.iload_n 2, 1) := by decide +kernel
theorem dX8_copyFrom_77 : decode cX8_copyFrom 77 = .ok (.aaload, 1) := by decide +kernel
theorem dX8_copyFrom_78 : decode cX8_copyFrom 78 = .ok (.invokevirtual 47, 3) := by decide +kernel
theorem dX8_copyFrom_81 : decode cX8_copyFrom 81 = .ok (.iinc 2 1, 3) := by decide +kernel
theorem dX8_copyFrom_84 : decode cX8_copyFrom 84 = .ok (.goto (-26), 3) := by decide +kernel
theorem dX8_copyFrom_87 : decode cX8_copyFrom 87 = .ok (.aload_n 0, 1) := by decide +kernel
theorem dX8_copyFrom_88 : decode cX8_copyFrom 88 = .ok (.aload_n 1, 1) := by decide +kernel
theorem dX8_copyFrom_89 : decode cX8_copyFrom 89 = .ok (.getfield 50, 3) := by decide +kernel
theorem dX8_copyFrom_92 : decode cX8_copyFrom 92 = .ok (.putfield 50, 3) := by decide +kernel
theorem dX8_copyFrom_95 : decode cX8_copyFrom 95 = .ok (.iconst 0, 1) := by decide +kernel
theorem dX8_copyFrom_96 : decode cX8_copyFrom 96 = .ok (.istore_n 2, 1) := by decide +kernel
theorem dX8_copyFrom_97 : decode cX8_copyFrom 97 = .ok (.iload_n 2, 1) := by decide +kernel
theorem dX8_copyFrom_98 : decode cX8_copyFrom 98 = .ok (.aload_n 0, 1) := by decide +kernel
theorem dX8_copyFrom_99 : decode cX8_copyFrom 99 = .ok (.getfield 50, 3) := by decide +kernel
theorem dX8_copyFrom_102 : decode cX8_copyFrom 102 = .ok (.if_icmp .ge 24, 3) := by decide +kernel
theorem dX8_copyFrom_105 : decode cX8_copyFrom 105 = .ok (.aload_n 0, 1) := by decide +kernel
theorem dX8_copyFrom_106 : decode cX8_copyFrom 106 = .ok (.getfield 30, 3) := by decide +kernel
theorem dX8_copyFrom_109 : decode cX8_copyFrom 109 = .ok (.iload_n 2, 1) := by decide +kernel
theorem dX8_copyFrom_110 : decode cX8_copyFrom 110 = .ok (.aaload, 1) := by decide +kernel
theorem dX8_copyFrom_111 : decode cX8_copyFrom 111 = .ok (.aload_n 1, 1) := by decide +kernel
theorem dX8_copyFrom_112 : decode cX8_copyFrom 112 = .ok (.getfield 30, 3) := by decide +kernel
theorem dX8_copyFrom_115 : decode cX8_copyFrom 115 = .ok (.iload_n 2, 1) := by decide +kernel
theorem dX8_copyFrom_116 : decode cX8_copyFrom 116 = .ok (.aaload, 1) := by decide +kernel
theorem dX8_copyFrom_117 : decode cX8_copyFrom 117 = .ok (.invokevirtual 53, 3) := by decide +kernel
theorem dX8_copyFrom_120 : decode cX8_copyFrom 120 = .ok (.iinc 2 1, 3) := by decide +kernel
theorem dX8_copyFrom_123 : decode cX8_copyFrom 123 = .ok (.goto (-26), 3) := by decide +kernel
theorem dX8_copyFrom_126 : decode cX8_copyFrom 126 = .ok (.aload_n 0, 1) := by decide +kernel
theorem dX8_copyFrom_127 : decode cX8_copyFrom 127 = .ok (.aload_n 1, 1) := by decide +kernel
theorem dX8_copyFrom_128 : decode cX8_copyFrom 128 = .ok (.getfield 56, 3) := by decide +kernel
theorem dX8_copyFrom_131 : decode cX8_copyFrom 131 = .ok (.putfield 56, 3) := by decide +kernel
theorem dX8_copyFrom_134 : decode cX8_copyFrom 134 = .ok (.aload_n 0, 1) := by decide +kernel
theorem dX8_copyFrom_135 : decode cX8_copyFrom 135 = .ok (.aload_n 1, 1) := by decide +kernel
theorem dX8_copyFrom_136 : decode cX8_copyFrom 136 = .ok (.getfield 59, 3) := by decide +kernel
theorem dX8_copyFrom_139 : decode cX8_copyFrom 139 = .ok (.putfield 59, 3) := by decide +kernel
theorem dX8_copyFrom_142 : decode cX8_copyFrom 142 = .ok (.aload_n 0, 1) := by decide +kernel
theorem dX8_copyFrom_143 : decode cX8_copyFrom 143 = .ok (.aload_n 1, 1) := by decide +kernel
theorem dX8_copyFrom_144 : decode cX8_copyFrom 144 = .ok (.getfield 62, 3) := by decide +kernel
theorem dX8_copyFrom_147 : decode cX8_copyFrom 147 = .ok (.putfield 62, 3) := by decide +kernel
theorem dX8_copyFrom_150 : decode cX8_copyFrom 150 = .ok (.return_, 1) := by decide +kernel
theorem dX1_save_0 : decode cX1_save 0 = .ok (.aload_n 0, 1) := by decide +kernel
theorem dX1_save_1 : decode cX1_save 1 = .ok (.getfield 18, 3) := by decide +kernel
theorem dX1_save_4 : decode cX1_save 4 = .ok (.iconst 5, 1) := by decide +kernel
theorem dX1_save_5 : decode cX1_save 5 = .ok (.if_icmp .ne 7, 3) := by decide +kernel
theorem dX1_save_8 : decode cX1_save 8 = .ok (.aload_n 0, 1) := by decide +kernel
theorem dX1_save_9 : decode cX1_save 9 = .ok (.invokevirtual 22, 3) := by decide +kernel
theorem dX1_save_12 : decode cX1_save 12 = .ok (.aload_n 0, 1) := by decide +kernel
theorem dX1_save_13 : decode cX1_save 13 = .ok (.getfield 11, 3) := by decide +kernel
theorem dX1_save_16 : decode cX1_save 16 = .ok (.aload_n 0, 1) := by decide +kernel
theorem dX1_save_17 : decode cX1_save 17 = .ok (.getfield 18, 3) := by decide +kernel
theorem dX1_save_20 : decode cX1_save 20 = .ok (.aaload, 1) := by decide +kernel
theorem dX1_save_21 : decode cX1_save 21 = .ok (.aload_n 1, 1) := by decide +kernel
theorem dX1_save_22 : decode cX1_save 22 = .ok (.invokevirtual 25, 3) := by decide +kernel
theorem dX1_save_25 : decode cX1_save 25 = .ok (.aload_n 0, 1) := by decide +kernel
theorem dX1_save_26 : decode cX1_save 26 = .ok (.dup, 1) := by decide +kernel
theorem dX1_save_27 : decode cX1_save 27 = .ok (.getfield 18, 3) := by decide +kernel
theorem dX1_save_30 : decode cX1_save 30 = .ok (.iconst 1, 1) := by decide +kernel
theorem dX1_save_31 : decode cX1_save 31 = .ok (.iadd, 1) := by decide +kernel
theorem dX1_save_32 : decode cX1_save 32 = .ok (.putfield 18, 3) := by decide +kernel
theorem dX1_save_35 : decode cX1_save 35 = .ok (.return_, 1) := by decide +kernel
theorem dX2_init_0 : decode cX2_init 0 = .ok (.aload_n 0, 1) := by decide +kernel
theorem dX2_init_1 : decode cX2_init 1 = .ok (.invokespecial 3, 3) := by decide +kernel
theorem dX2_init_4 : decode cX2_init 4 = .ok (.aload_n 0, 1) := by decide +kernel
theorem dX2_init_5 : decode cX2_init 5 = .ok (.new 9, 3) := by decide +kernel
theorem dX2_init_8 : decode cX2_init 8 = .ok (.dup, 1) := by decide +kernel
theorem dX2_init_9 : decode cX2_init 9 = .ok (.invokespecial 11, 3) := by decide +kernel
theorem dX2_init_12 : decode cX2_init 12 = .ok (.putfield 12, 3) := by decide +kernel
theorem dX2_init_15 : decode cX2_init 15 = .ok (.return_, 1) := by decide +kernel
theorem dX8_dropFirstOrders_0 : decode cX8_dropFirstOrders 0 = .ok (.iload_n 1, 1) := by decide +kernel
theorem dX8_dropFirstOrders_1 : decode cX8_dropFirstOrders 1 = .ok (.istore_n 2, 1) := by decide +kernel
theorem dX8_dropFirstOrders_2 : decode cX8_dropFirstOrders 2 = .ok (.iload_n 2, 1) := by decide +kernel
theorem dX8_dropFirstOrders_3 : decode cX8_dropFirstOrders 3 = .ok (.aload_n 0, 1) := by decide +kernel
theorem dX8_dropFirstOrders_4 : decode cX8_dropFirstOrders 4 = .ok (.getfield 50, 3) := by decide +kernel
theorem dX8_dropFirstOrders_7 : decode cX8_dropFirstOrders 7 = .ok (.if_icmp .ge 26, 3) := by decide +kernel
theorem dX8_dropFirstOrders_10 : decode cX8_dropFirstOrders 10 = .ok (.aload_n 0, 1) := by decide +kernel
theorem dX8_dropFirstOrders_11 : decode cX8_dropFirstOrders 11 = .ok (.getfield 30, 3) := by decide +kernel
theorem dX8_dropFirstOrders_14 : decode cX8_dropFirstOrders 14 = .ok (.iload_n 2, 1) := by decide +kernel
theorem dX8_dropFirstOrders_15 : decode cX8_dropFirstOrders 15 = .ok (.iload_n 1, 1) := by decide +kernel
theorem dX8_dropFirstOrders_16 : decode cX8_dropFirstOrders 16 = .ok (.isub, 1) := by decide +kernel
theorem dX8_dropFirstOrders_17 : decode cX8_dropFirstOrders 17 = .ok (.aaload, 1) := by decide +kernel
theorem dX8_dropFirstOrders_18 : decode cX8_dropFirstOrders 18 = .ok (.aload_n 0, 1) := by decide +kernel
theorem dX8_dropFirstOrders_19 : decode cX8_dropFirstOrders 19 = .ok (.getfield 30, 3) := by decide +kernel
theorem dX8_dropFirstOrders_22 : decode cX8_dropFirstOrders 22 = .ok (.iload_n 2, 1) := by decide +kernel
theorem dX8_dropFirstOrders_23 : decode cX8_dropFirstOrders 23 = .ok (.aaload, 1) := by decide +kernel
theorem dX8_dropFirstOrders_24 : decode cX8_dropFirstOrders 24 = .ok (.invokevirtual 53, 3) := by decide +kernel
theorem dX8_dropFirstOrders_27 : decode cX8_dropFirstOrders 27 = .ok (.iinc 2 1, 3) := by decide +kernel
theorem dX8_dropFirstOrders_30 : decode cX8_dropFirstOrders 30 = .ok (.goto (-28), 3) := by decide +kernel
theorem dX8_dropFirstOrders_33 : decode cX8_dropFirstOrders 33 = .ok (.aload_n 0, 1) := by decide +kernel
theorem dX8_dropFirstOrders_34 : decode cX8_dropFirstOrders 34 = .ok (.dup, 1) := by decide +kernel
theorem dX8_dropFirstOrders_35 : decode cX8_dropFirstOrders 35 = .ok (.getfield 50, 3) := by decide +kernel
theorem dX8_dropFirstOrders_38 : decode cX8_dropFirstOrders 38 = .ok (.iload_n 1, 1) := by decide +kernel
theorem dX8_dropFirstOrders_39 : decode cX8_dropFirstOrders 39 = .ok (.isub, 1) := by decide +kernel
end
section
theorem dX8_dropFirstOrders_40 : decode cX8_dropFirstOrders 40 = .ok (.putfield 50, 3) := by decide +kernel
theorem dX8_dropFirstOrders_43 : decode cX8_dropFirstOrders 43 = .ok (.return_, 1) := by decide +kernel
theorem dX2_bringOrders_0 : decode cX2_bringOrders 0 = .ok (.iconst 0, 1) := by decide +kernel
theorem dX2_bringOrders_1 : decode cX2_bringOrders 1 = .ok (.istore_n 1, 1) := by decide +kernel
theorem dX2_bringOrders_2 : decode cX2_bringOrders 2 = .ok (.iload_n 1, 1) := by decide +kernel
theorem dX2_bringOrders_3 : decode cX2_bringOrders 3 = .ok (.aload_n 0, 1) := by decide +kernel
theorem dX2_bringOrders_4 : decode cX2_bringOrders 4 = .ok (.getfield 45, 3) := by decide +kernel
theorem dX2_bringOrders_7 : decode cX2_bringOrders 7 = .ok (.if_icmp .ge 80, 3) := by decide +kernel
theorem dX2_bringOrders_10 : decode cX2_bringOrders 10 = .ok (.aload_n 0, 1) := by decide +kernel
theorem dX2_bringOrders_11 : decode cX2_bringOrders 11 = .ok (.getfield 48, 3) := by decide +kernel
theorem dX2_bringOrders_14 : decode cX2_bringOrders 14 = .ok (.iload_n 1, 1) := by decide +kernel
theorem dX2_bringOrders_15 : decode cX2_bringOrders 15 = .ok (.aaload, 1) := by decide +kernel
theorem dX2_bringOrders_16 : decode cX2_bringOrders 16 = .ok (.getfield 52, 3) := by decide +kernel
theorem dX2_bringOrders_19 : decode cX2_bringOrders 19 = .ok (.aload_n 0, 1) := by decide +kernel
theorem dX2_bringOrders_20 : decode cX2_bringOrders 20 = .ok (.getfield 18, 3) := by decide +kernel
theorem dX2_bringOrders_23 : decode cX2_bringOrders 23 = .ok (.if_icmp .gt 64, 3) := by decide +kernel
theorem dX2_bringOrders_26 : decode cX2_bringOrders 26 = .ok (.aload_n 0, 1) := by decide +kernel
theorem dX2_bringOrders_27 : decode cX2_bringOrders 27 = .ok (.getfield 48, 3) := by decide +kernel
theorem dX2_bringOrders_30 : decode cX2_bringOrders 30 = .ok (.iload_n 1, 1) := by decide +kernel
theorem dX2_bringOrders_31 : decode cX2_bringOrders 31 = .ok (.aaload, 1) := by decide +kernel
theorem dX2_bringOrders_32 : decode cX2_bringOrders 32 = .ok (.astore_n 2, 1) := by decide +kernel
theorem dX2_bringOrders_33 : decode cX2_bringOrders 33 = .ok (.aload_n 0, 1) := by decide +kernel
theorem dX2_bringOrders_34 : decode cX2_bringOrders 34 = .ok (.getfield 37, 3) := by decide +kernel
theorem dX2_bringOrders_37 : decode cX2_bringOrders 37 = .ok (.aload_n 2, 1) := by decide +kernel
theorem dX2_bringOrders_38 : decode cX2_bringOrders 38 = .ok (.getfield 57, 3) := by decide +kernel
theorem dX2_bringOrders_41 : decode cX2_bringOrders 41 = .ok (.aaload, 1) := by decide +kernel
theorem dX2_bringOrders_42 : decode cX2_bringOrders 42 = .ok (.astore_n 3, 1) := by decide +kernel
theorem dX2_bringOrders_43 : decode cX2_bringOrders 43 = .ok (.aload_n 3, 1) := by decide +kernel
theorem dX2_bringOrders_44 : decode cX2_bringOrders 44 = .ok (.getfield 60, 3) := by decide +kernel
theorem dX2_bringOrders_47 : decode cX2_bringOrders 47 = .ok (.ifCond .ne 24, 3) := by decide +kernel
theorem dX2_bringOrders_50 : decode cX2_bringOrders 50 = .ok (.aload_n 3, 1) := by decide +kernel
theorem dX2_bringOrders_51 : decode cX2_bringOrders 51 = .ok (.aload_n 2, 1) := by decide +kernel
theorem dX2_bringOrders_52 : decode cX2_bringOrders 52 = .ok (.getfield 65, 3) := by decide +kernel
theorem dX2_bringOrders_55 : decode cX2_bringOrders 55 = .ok (.putfield 68, 3) := by decide +kernel
theorem dX2_bringOrders_58 : decode cX2_bringOrders 58 = .ok (.aload_n 3, 1) := by decide +kernel
theorem dX2_bringOrders_59 : decode cX2_bringOrders 59 = .ok (.dup, 1) := by decide +kernel
theorem dX2_bringOrders_60 : decode cX2_bringOrders 60 = .ok (.getfield 69, 3) := by decide +kernel
theorem dX2_bringOrders_63 : decode cX2_bringOrders 63 = .ok (.iconst 1, 1) := by decide +kernel
theorem dX2_bringOrders_64 : decode cX2_bringOrders 64 = .ok (.iadd, 1) := by decide +kernel
theorem dX2_bringOrders_65 : decode cX2_bringOrders 65 = .ok (.putfield 69, 3) := by decide +kernel
theorem dX2_bringOrders_68 : decode cX2_bringOrders 68 = .ok (.goto 13, 3) := by decide +kernel
theorem dX2_bringOrders_71 : decode cX2_bringOrders 71 = .ok (.aload_n 0, 1) := by decide +kernel
theorem dX2_bringOrders_72 : decode cX2_bringOrders 72 = .ok (.dup, 1) := by decide +kernel
theorem dX2_bringOrders_73 : decode cX2_bringOrders 73 = .ok (.getfield 72, 3) := by decide +kernel
theorem dX2_bringOrders_76 : decode cX2_bringOrders 76 = .ok (.iconst 1, 1) := by decide +kernel
theorem dX2_bringOrders_77 : decode cX2_bringOrders 77 = .ok (.iadd, 1) := by decide +kernel
theorem dX2_bringOrders_78 : decode cX2_bringOrders 78 = .ok (.putfield 72, 3) := by decide +kernel
theorem dX2_bringOrders_81 : decode cX2_bringOrders 81 = .ok (.iinc 1 1, 3) := by decide +kernel
theorem dX2_bringOrders_84 : decode cX2_bringOrders 84 = .ok (.goto (-82), 3) := by decide +kernel
theorem dX2_bringOrders_87 : decode cX2_bringOrders 87 = .ok (.aload_n 0, 1) := by decide +kernel
theorem dX2_bringOrders_88 : decode cX2_bringOrders 88 = .ok (.iload_n 1, 1) := by decide +kernel
theorem dX2_bringOrders_89 : decode cX2_bringOrders 89 = .ok (.invokevirtual 75, 3) := by decide +kernel
theorem dX2_bringOrders_92 : decode cX2_bringOrders 92 = .ok (.return_, 1) := by decide +kernel
theorem dX4_openAll_0 : decode cX4_openAll 0 = .ok (.aload_n 0, 1) := by decide +kernel
theorem dX4_openAll_1 : decode cX4_openAll 1 = .ok (.getfield 18, 3) := by decide +kernel
theorem dX4_openAll_4 : decode cX4_openAll 4 = .ok (.iconst 0, 1) := by decide +kernel
theorem dX4_openAll_5 : decode cX4_openAll 5 = .ok (.invokestatic 21, 3) := by decide +kernel
theorem dX4_openAll_8 : decode cX4_openAll 8 = .ok (.return_, 1) := by decide +kernel
theorem dX4_freeStepNearer_0 : decode cX4_freeStepNearer 0 = .ok (.iconst 0, 1) := by decide +kernel
theorem dX4_freeStepNearer_1 : decode cX4_freeStepNearer 1 = .ok (.istore_n 3, 1) := by decide +kernel
theorem dX4_freeStepNearer_2 : decode cX4_freeStepNearer 2 = .ok (.iload_n 3, 1) := by decide +kernel
theorem dX4_freeStepNearer_3 : decode cX4_freeStepNearer 3 = .ok (.iconst 4, 1) := by decide +kernel
theorem dX4_freeStepNearer_4 : decode cX4_freeStepNearer 4 = .ok (.if_icmp .ge 72, 3) := by decide +kernel
theorem dX4_freeStepNearer_7 : decode cX4_freeStepNearer 7 = .ok (.aload_n 0, 1) := by decide +kernel
theorem dX4_freeStepNearer_8 : decode cX4_freeStepNearer 8 = .ok (.getfield 9, 3) := by decide +kernel
theorem dX4_freeStepNearer_11 : decode cX4_freeStepNearer 11 = .ok (.iload_n 2, 1) := by decide +kernel
theorem dX4_freeStepNearer_12 : decode cX4_freeStepNearer 12 = .ok (.iaload, 1) := by decide +kernel
theorem dX4_freeStepNearer_13 : decode cX4_freeStepNearer 13 = .ok (.ifCond .le 63, 3) := by decide +kernel
theorem dX4_freeStepNearer_16 : decode cX4_freeStepNearer 16 = .ok (.iload_n 2, 1) := by decide +kernel
theorem dX4_freeStepNearer_17 : decode cX4_freeStepNearer 17 = .ok (.iload_n 3, 1) := by decide +kernel
theorem dX4_freeStepNearer_18 : decode cX4_freeStepNearer 18 = .ok (.invokestatic 27, 3) := by decide +kernel
theorem dX4_freeStepNearer_21 : decode cX4_freeStepNearer 21 = .ok (.istore 4, 2) := by decide +kernel
theorem dX4_freeStepNearer_23 : decode cX4_freeStepNearer 23 = .ok (.iload 4, 2) := by decide +kernel
theorem dX4_freeStepNearer_25 : decode cX4_freeStepNearer 25 = .ok (.iconst (-1), 1) := by decide +kernel
theorem dX4_freeStepNearer_26 : decode cX4_freeStepNearer 26 = .ok (.if_icmp .eq 44, 3) := by decide +kernel
theorem dX4_freeStepNearer_29 : decode cX4_freeStepNearer 29 = .ok (.aload_n 0, 1) := by decide +kernel
theorem dX4_freeStepNearer_30 : decode cX4_freeStepNearer 30 = .ok (.getfield 9, 3) := by decide +kernel
theorem dX4_freeStepNearer_33 : decode cX4_freeStepNearer 33 = .ok (.iload 4, 2) := by decide +kernel
theorem dX4_freeStepNearer_35 : decode cX4_freeStepNearer 35 = .ok (.iaload, 1) := by decide +kernel
theorem dX4_freeStepNearer_36 : decode cX4_freeStepNearer 36 = .ok (.aload_n 0, 1) := by decide +kernel
theorem dX4_freeStepNearer_37 : decode cX4_freeStepNearer 37 = .ok (.getfield 9, 3) := by decide +kernel
theorem dX4_freeStepNearer_40 : decode cX4_freeStepNearer 40 = .ok (.iload_n 2, 1) := by decide +kernel
theorem dX4_freeStepNearer_41 : decode cX4_freeStepNearer 41 = .ok (.iaload, 1) := by decide +kernel
theorem dX4_freeStepNearer_42 : decode cX4_freeStepNearer 42 = .ok (.iconst 1, 1) := by decide +kernel
theorem dX4_freeStepNearer_43 : decode cX4_freeStepNearer 43 = .ok (.isub, 1) := by decide +kernel
theorem dX4_freeStepNearer_44 : decode cX4_freeStepNearer 44 = .ok (.if_icmp .ne 26, 3) := by decide +kernel
theorem dX4_freeStepNearer_47 : decode cX4_freeStepNearer 47 = .ok (.aload_n 0, 1) := by decide +kernel
theorem dX4_freeStepNearer_48 : decode cX4_freeStepNearer 48 = .ok (.getfield 18, 3) := by decide +kernel
theorem dX4_freeStepNearer_51 : decode cX4_freeStepNearer 51 = .ok (.iload 4, 2) := by decide +kernel
theorem dX4_freeStepNearer_53 : decode cX4_freeStepNearer 53 = .ok (.iaload, 1) := by decide +kernel
theorem dX4_freeStepNearer_54 : decode cX4_freeStepNearer 54 = .ok (.ifCond .ne 16, 3) := by decide +kernel
theorem dX4_freeStepNearer_57 : decode cX4_freeStepNearer 57 = .ok (.aload_n 1, 1) := by decide +kernel
theorem dX4_freeStepNearer_58 : decode cX4_freeStepNearer 58 = .ok (.iload_n 2, 1) := by decide +kernel
theorem dX4_freeStepNearer_59 : decode cX4_freeStepNearer 59 = .ok (.iload 4, 2) := by decide +kernel
theorem dX4_freeStepNearer_61 : decode cX4_freeStepNearer 61 = .ok (.invokevirtual 35, 3) := by decide +kernel
theorem dX4_freeStepNearer_64 : decode cX4_freeStepNearer 64 = .ok (.ifCond .eq 6, 3) := by decide +kernel
theorem dX4_freeStepNearer_67 : decode cX4_freeStepNearer 67 = .ok (.iload 4, 2) := by decide +kernel
theorem dX4_freeStepNearer_69 : decode cX4_freeStepNearer 69 = .ok (.ireturn, 1) := by decide +kernel
theorem dX4_freeStepNearer_70 : decode cX4_freeStepNearer 70 = .ok (.iinc 3 1, 3) := by decide +kernel
theorem dX4_freeStepNearer_73 : decode cX4_freeStepNearer 73 = .ok (.goto (-71), 3) := by decide +kernel
theorem dX4_freeStepNearer_76 : decode cX4_freeStepNearer 76 = .ok (.iconst (-1), 1) := by decide +kernel
theorem dX4_freeStepNearer_77 : decode cX4_freeStepNearer 77 = .ok (.ireturn, 1) := by decide +kernel
theorem dX2_stepToGoal_0 : decode cX2_stepToGoal 0 = .ok (.aload_n 1, 1) := by decide +kernel
theorem dX2_stepToGoal_1 : decode cX2_stepToGoal 1 = .ok (.getfield 37, 3) := by decide +kernel
theorem dX2_stepToGoal_4 : decode cX2_stepToGoal 4 = .ok (.iload_n 2, 1) := by decide +kernel
theorem dX2_stepToGoal_5 : decode cX2_stepToGoal 5 = .ok (.aaload, 1) := by decide +kernel
theorem dX2_stepToGoal_6 : decode cX2_stepToGoal 6 = .ok (.astore_n 3, 1) := by decide +kernel
theorem dX2_stepToGoal_7 : decode cX2_stepToGoal 7 = .ok (.aload_n 0, 1) := by decide +kernel
theorem dX2_stepToGoal_8 : decode cX2_stepToGoal 8 = .ok (.getfield 12, 3) := by decide +kernel
theorem dX2_stepToGoal_11 : decode cX2_stepToGoal 11 = .ok (.invokevirtual 89, 3) := by decide +kernel
theorem dX2_stepToGoal_14 : decode cX2_stepToGoal 14 = .ok (.iconst 0, 1) := by decide +kernel
theorem dX2_stepToGoal_15 : decode cX2_stepToGoal 15 = .ok (.istore 4, 2) := by decide +kernel
theorem dX2_stepToGoal_17 : decode cX2_stepToGoal 17 = .ok (.iload 4, 2) := by decide +kernel
theorem dX2_stepToGoal_19 : decode cX2_stepToGoal 19 = .ok (.aload_n 1, 1) := by decide +kernel
theorem dX2_stepToGoal_20 : decode cX2_stepToGoal 20 = .ok (.getfield 34, 3) := by decide +kernel
theorem dX2_stepToGoal_23 : decode cX2_stepToGoal 23 = .ok (.if_icmp .ge 48, 3) := by decide +kernel
theorem dX2_stepToGoal_26 : decode cX2_stepToGoal 26 = .ok (.iload 4, 2) := by decide +kernel
theorem dX2_stepToGoal_28 : decode cX2_stepToGoal 28 = .ok (.iload_n 2, 1) := by decide +kernel
theorem dX2_stepToGoal_29 : decode cX2_stepToGoal 29 = .ok (.if_icmp .eq 36, 3) := by decide +kernel
theorem dX2_stepToGoal_32 : decode cX2_stepToGoal 32 = .ok (.aload_n 1, 1) := by decide +kernel
theorem dX2_stepToGoal_33 : decode cX2_stepToGoal 33 = .ok (.getfield 37, 3) := by decide +kernel
theorem dX2_stepToGoal_36 : decode cX2_stepToGoal 36 = .ok (.iload 4, 2) := by decide +kernel
theorem dX2_stepToGoal_38 : decode cX2_stepToGoal 38 = .ok (.aaload, 1) := by decide +kernel
theorem dX2_stepToGoal_39 : decode cX2_stepToGoal 39 = .ok (.getfield 60, 3) := by decide +kernel
theorem dX2_stepToGoal_42 : decode cX2_stepToGoal 42 = .ok (.iconst 2, 1) := by decide +kernel
theorem dX2_stepToGoal_43 : decode cX2_stepToGoal 43 = .ok (.if_icmp .eq 22, 3) := by decide +kernel
theorem dX2_stepToGoal_46 : decode cX2_stepToGoal 46 = .ok (.aload_n 0, 1) := by decide +kernel
theorem dX2_stepToGoal_47 : decode cX2_stepToGoal 47 = .ok (.getfield 12, 3) := by decide +kernel
theorem dX2_stepToGoal_50 : decode cX2_stepToGoal 50 = .ok (.getfield 92, 3) := by decide +kernel
theorem dX2_stepToGoal_53 : decode cX2_stepToGoal 53 = .ok (.aload_n 1, 1) := by decide +kernel
theorem dX2_stepToGoal_54 : decode cX2_stepToGoal 54 = .ok (.getfield 37, 3) := by decide +kernel
theorem dX2_stepToGoal_57 : decode cX2_stepToGoal 57 = .ok (.iload 4, 2) := by decide +kernel
theorem dX2_stepToGoal_59 : decode cX2_stepToGoal 59 = .ok (.aaload, 1) := by decide +kernel
theorem dX2_stepToGoal_60 : decode cX2_stepToGoal 60 = .ok (.getfield 79, 3) := by decide +kernel
theorem dX2_stepToGoal_63 : decode cX2_stepToGoal 63 = .ok (.iconst 1, 1) := by decide +kernel
theorem dX2_stepToGoal_64 : decode cX2_stepToGoal 64 = .ok (.iastore, 1) := by decide +kernel
theorem dX2_stepToGoal_65 : decode cX2_stepToGoal 65 = .ok (.iinc 4 1, 3) := by decide +kernel
theorem dX2_stepToGoal_68 : decode cX2_stepToGoal 68 = .ok (.goto (-51), 3) := by decide +kernel
theorem dX2_stepToGoal_71 : decode cX2_stepToGoal 71 = .ok (.aload_n 0, 1) := by decide +kernel
theorem dX2_stepToGoal_72 : decode cX2_stepToGoal 72 = .ok (.getfield 12, 3) := by decide +kernel
theorem dX2_stepToGoal_75 : decode cX2_stepToGoal 75 = .ok (.aload_n 1, 1) := by decide +kernel
theorem dX2_stepToGoal_76 : decode cX2_stepToGoal 76 = .ok (.getfield 96, 3) := by decide +kernel
theorem dX2_stepToGoal_79 : decode cX2_stepToGoal 79 = .ok (.aload_n 3, 1) := by decide +kernel
theorem dX2_stepToGoal_80 : decode cX2_stepToGoal 80 = .ok (.getfield 68, 3) := by decide +kernel
theorem dX2_stepToGoal_83 : decode cX2_stepToGoal 83 = .ok (.aload_n 3, 1) := by decide +kernel
theorem dX2_stepToGoal_84 : decode cX2_stepToGoal 84 = .ok (.getfield 79, 3) := by decide +kernel
theorem dX2_stepToGoal_87 : decode cX2_stepToGoal 87 = .ok (.invokevirtual 100, 3) := by decide +kernel
theorem dX2_stepToGoal_90 : decode cX2_stepToGoal 90 = .ok (.aload_n 0, 1) := by decide +kernel
theorem dX2_stepToGoal_91 : decode cX2_stepToGoal 91 = .ok (.getfield 12, 3) := by decide +kernel
theorem dX2_stepToGoal_94 : decode cX2_stepToGoal 94 = .ok (.aload_n 1, 1) := by decide +kernel
theorem dX2_stepToGoal_95 : decode cX2_stepToGoal 95 = .ok (.getfield 96, 3) := by decide +kernel
theorem dX2_stepToGoal_98 : decode cX2_stepToGoal 98 = .ok (.aload_n 3, 1) := by decide +kernel
theorem dX2_stepToGoal_99 : decode cX2_stepToGoal 99 = .ok (.getfield 79, 3) := by decide +kernel
theorem dX2_stepToGoal_102 : decode cX2_stepToGoal 102 = .ok (.invokevirtual 104, 3) := by decide +kernel
theorem dX2_stepToGoal_105 : decode cX2_stepToGoal 105 = .ok (.istore 4, 2) := by decide +kernel
theorem dX2_stepToGoal_107 : decode cX2_stepToGoal 107 = .ok (.iload 4, 2) := by decide +kernel
theorem dX2_stepToGoal_109 : decode cX2_stepToGoal 109 = .ok (.iconst (-1), 1) := by decide +kernel
theorem dX2_stepToGoal_110 : decode cX2_stepToGoal 110 = .ok (.if_icmp .eq 9, 3) := by decide +kernel
theorem dX2_stepToGoal_113 : decode cX2_stepToGoal 113 = .ok (.aload_n 3, 1) := by decide +kernel
theorem dX2_stepToGoal_114 : decode cX2_stepToGoal 114 = .ok (.iload 4, 2) := by decide +kernel
theorem dX2_stepToGoal_116 : decode cX2_stepToGoal 116 = .ok (.putfield 79, 3) := by decide +kernel
theorem dX2_stepToGoal_119 : decode cX2_stepToGoal 119 = .ok (.return_, 1) := by decide +kernel
theorem dX8_troopIn_0 : decode cX8_troopIn 0 = .ok (.iconst 0, 1) := by decide +kernel
theorem dX8_troopIn_1 : decode cX8_troopIn 1 = .ok (.istore_n 2, 1) := by decide +kernel
theorem dX8_troopIn_2 : decode cX8_troopIn 2 = .ok (.iload_n 2, 1) := by decide +kernel
theorem dX8_troopIn_3 : decode cX8_troopIn 3 = .ok (.aload_n 0, 1) := by decide +kernel
theorem dX8_troopIn_4 : decode cX8_troopIn 4 = .ok (.getfield 43, 3) := by decide +kernel
theorem dX8_troopIn_7 : decode cX8_troopIn 7 = .ok (.if_icmp .ge 37, 3) := by decide +kernel
theorem dX8_troopIn_10 : decode cX8_troopIn 10 = .ok (.aload_n 0, 1) := by decide +kernel
theorem dX8_troopIn_11 : decode cX8_troopIn 11 = .ok (.getfield 24, 3) := by decide +kernel
theorem dX8_troopIn_14 : decode cX8_troopIn 14 = .ok (.iload_n 2, 1) := by decide +kernel
theorem dX8_troopIn_15 : decode cX8_troopIn 15 = .ok (.aaload, 1) := by decide +kernel
theorem dX8_troopIn_16 : decode cX8_troopIn 16 = .ok (.getfield 76, 3) := by decide +kernel
theorem dX8_troopIn_19 : decode cX8_troopIn 19 = .ok (.iconst 2, 1) := by decide +kernel
theorem dX8_troopIn_20 : decode cX8_troopIn 20 = .ok (.if_icmp .eq 18, 3) := by decide +kernel
theorem dX8_troopIn_23 : decode cX8_troopIn 23 = .ok (.aload_n 0, 1) := by decide +kernel
theorem dX8_troopIn_24 : decode cX8_troopIn 24 = .ok (.getfield 24, 3) := by decide +kernel
theorem dX8_troopIn_27 : decode cX8_troopIn 27 = .ok (.iload_n 2, 1) := by decide +kernel
theorem dX8_troopIn_28 : decode cX8_troopIn 28 = .ok (.aaload, 1) := by decide +kernel
theorem dX8_troopIn_29 : decode cX8_troopIn 29 = .ok (.getfield 79, 3) := by decide +kernel
theorem dX8_troopIn_32 : decode cX8_troopIn 32 = .ok (.iload_n 1, 1) := by decide +kernel
theorem dX8_troopIn_33 : decode cX8_troopIn 33 = .ok (.if_icmp .ne 5, 3) := by decide +kernel
theorem dX8_troopIn_36 : decode cX8_troopIn 36 = .ok (.iload_n 2, 1) := by decide +kernel
theorem dX8_troopIn_37 : decode cX8_troopIn 37 = .ok (.ireturn, 1) := by decide +kernel
theorem dX8_troopIn_38 : decode cX8_troopIn 38 = .ok (.iinc 2 1, 3) := by decide +kernel
theorem dX8_troopIn_41 : decode cX8_troopIn 41 = .ok (.goto (-39), 3) := by decide +kernel
theorem dX8_troopIn_44 : decode cX8_troopIn 44 = .ok (.iconst (-1), 1) := by decide +kernel
theorem dX8_troopIn_45 : decode cX8_troopIn 45 = .ok (.ireturn, 1) := by decide +kernel
theorem dX2_stepBack_0 : decode cX2_stepBack 0 = .ok (.aload_n 1, 1) := by decide +kernel
theorem dX2_stepBack_1 : decode cX2_stepBack 1 = .ok (.getfield 79, 3) := by decide +kernel
theorem dX2_stepBack_4 : decode cX2_stepBack 4 = .ok (.aload_n 1, 1) := by decide +kernel
theorem dX2_stepBack_5 : decode cX2_stepBack 5 = .ok (.getfield 108, 3) := by decide +kernel
theorem dX2_stepBack_8 : decode cX2_stepBack 8 = .ok (.ifCond .ne 7, 3) := by decide +kernel
theorem dX2_stepBack_11 : decode cX2_stepBack 11 = .ok (.iconst 3, 1) := by decide +kernel
theorem dX2_stepBack_12 : decode cX2_stepBack 12 = .ok (.goto 4, 3) := by decide +kernel
theorem dX2_stepBack_15 : decode cX2_stepBack 15 = .ok (.iconst 1, 1) := by decide +kernel
theorem dX2_stepBack_16 : decode cX2_stepBack 16 = .ok (.invokestatic 111, 3) := by decide +kernel
theorem dX2_stepBack_19 : decode cX2_stepBack 19 = .ok (.istore_n 2, 1) := by decide +kernel
theorem dX2_stepBack_20 : decode cX2_stepBack 20 = .ok (.iload_n 2, 1) := by decide +kernel
theorem dX2_stepBack_21 : decode cX2_stepBack 21 = .ok (.iconst (-1), 1) := by decide +kernel
theorem dX2_stepBack_22 : decode cX2_stepBack 22 = .ok (.if_icmp .eq 32, 3) := by decide +kernel
theorem dX2_stepBack_25 : decode cX2_stepBack 25 = .ok (.aload_n 0, 1) := by decide +kernel
theorem dX2_stepBack_26 : decode cX2_stepBack 26 = .ok (.getfield 96, 3) := by decide +kernel
theorem dX2_stepBack_29 : decode cX2_stepBack 29 = .ok (.aload_n 1, 1) := by decide +kernel
theorem dX2_stepBack_30 : decode cX2_stepBack 30 = .ok (.getfield 79, 3) := by decide +kernel
theorem dX2_stepBack_33 : decode cX2_stepBack 33 = .ok (.iload_n 2, 1) := by decide +kernel
theorem dX2_stepBack_34 : decode cX2_stepBack 34 = .ok (.invokevirtual 115, 3) := by decide +kernel
theorem dX2_stepBack_37 : decode cX2_stepBack 37 = .ok (.ifCond .eq 17, 3) := by decide +kernel
theorem dX2_stepBack_40 : decode cX2_stepBack 40 = .ok (.aload_n 0, 1) := by decide +kernel
theorem dX2_stepBack_41 : decode cX2_stepBack 41 = .ok (.iload_n 2, 1) := by decide +kernel
theorem dX2_stepBack_42 : decode cX2_stepBack 42 = .ok (.invokevirtual 121, 3) := by decide +kernel
theorem dX2_stepBack_45 : decode cX2_stepBack 45 = .ok (.iconst (-1), 1) := by decide +kernel
theorem dX2_stepBack_46 : decode cX2_stepBack 46 = .ok (.if_icmp .ne 8, 3) := by decide +kernel
theorem dX2_stepBack_49 : decode cX2_stepBack 49 = .ok (.aload_n 1, 1) := by decide +kernel
theorem dX2_stepBack_50 : decode cX2_stepBack 50 = .ok (.iload_n 2, 1) := by decide +kernel
theorem dX2_stepBack_51 : decode cX2_stepBack 51 = .ok (.putfield 79, 3) := by decide +kernel
theorem dX2_stepBack_54 : decode cX2_stepBack 54 = .ok (.return_, 1) := by decide +kernel
theorem dX2_march_0 : decode cX2_march 0 = .ok (.iconst 0, 1) := by decide +kernel
theorem dX2_march_1 : decode cX2_march 1 = .ok (.istore_n 2, 1) := by decide +kernel
theorem dX2_march_2 : decode cX2_march 2 = .ok (.iload_n 2, 1) := by decide +kernel
theorem dX2_march_3 : decode cX2_march 3 = .ok (.aload_n 1, 1) := by decide +kernel
theorem dX2_march_4 : decode cX2_march 4 = .ok (.getfield 34, 3) := by decide +kernel
theorem dX2_march_7 : decode cX2_march 7 = .ok (.if_icmp .ge 56, 3) := by decide +kernel
theorem dX2_march_10 : decode cX2_march 10 = .ok (.aload_n 1, 1) := by decide +kernel
theorem dX2_march_11 : decode cX2_march 11 = .ok (.getfield 37, 3) := by decide +kernel
theorem dX2_march_14 : decode cX2_march 14 = .ok (.iload_n 2, 1) := by decide +kernel
theorem dX2_march_15 : decode cX2_march 15 = .ok (.aaload, 1) := by decide +kernel
theorem dX2_march_16 : decode cX2_march 16 = .ok (.astore_n 3, 1) := by decide +kernel
theorem dX2_march_17 : decode cX2_march 17 = .ok (.aload_n 3, 1) := by decide +kernel
theorem dX2_march_18 : decode cX2_march 18 = .ok (.getfield 60, 3) := by decide +kernel
theorem dX2_march_21 : decode cX2_march 21 = .ok (.ifCond .ne 23, 3) := by decide +kernel
theorem dX2_march_24 : decode cX2_march 24 = .ok (.aload_n 3, 1) := by decide +kernel
theorem dX2_march_25 : decode cX2_march 25 = .ok (.getfield 79, 3) := by decide +kernel
theorem dX2_march_28 : decode cX2_march 28 = .ok (.aload_n 3, 1) := by decide +kernel
theorem dX2_march_29 : decode cX2_march 29 = .ok (.getfield 68, 3) := by decide +kernel
theorem dX2_march_32 : decode cX2_march 32 = .ok (.if_icmp .eq 12, 3) := by decide +kernel
theorem dX2_march_35 : decode cX2_march 35 = .ok (.aload_n 0, 1) := by decide +kernel
theorem dX2_march_36 : decode cX2_march 36 = .ok (.aload_n 1, 1) := by decide +kernel
theorem dX2_march_37 : decode cX2_march 37 = .ok (.iload_n 2, 1) := by decide +kernel
theorem dX2_march_38 : decode cX2_march 38 = .ok (.invokevirtual 82, 3) := by decide +kernel
theorem dX2_march_41 : decode cX2_march 41 = .ok (.goto 16, 3) := by decide +kernel
theorem dX2_march_44 : decode cX2_march 44 = .ok (.aload_n 3, 1) := by decide +kernel
theorem dX2_march_45 : decode cX2_march 45 = .ok (.getfield 60, 3) := by decide +kernel
theorem dX2_march_48 : decode cX2_march 48 = .ok (.iconst 1, 1) := by decide +kernel
theorem dX2_march_49 : decode cX2_march 49 = .ok (.if_icmp .ne 8, 3) := by decide +kernel
theorem dX2_march_52 : decode cX2_march 52 = .ok (.aload_n 1, 1) := by decide +kernel
theorem dX2_march_53 : decode cX2_march 53 = .ok (.aload_n 3, 1) := by decide +kernel
theorem dX2_march_54 : decode cX2_march 54 = .ok (.invokestatic 86, 3) := by decide +kernel
theorem dX2_march_57 : decode cX2_march 57 = .ok (.iinc 2 1, 3) := by decide +kernel
theorem dX2_march_60 : decode cX2_march 60 = .ok (.goto (-58), 3) := by decide +kernel
theorem dX2_march_63 : decode cX2_march 63 = .ok (.return_, 1) := by decide +kernel
theorem dX7_isEnemyOf_0 : decode cX7_isEnemyOf 0 = .ok (.aload_n 0, 1) := by decide +kernel
theorem dX7_isEnemyOf_1 : decode cX7_isEnemyOf 1 = .ok (.getfield 24, 3) := by decide +kernel
theorem dX7_isEnemyOf_4 : decode cX7_isEnemyOf 4 = .ok (.iconst 2, 1) := by decide +kernel
theorem dX7_isEnemyOf_5 : decode cX7_isEnemyOf 5 = .ok (.if_icmp .eq 18, 3) := by decide +kernel
theorem dX7_isEnemyOf_8 : decode cX7_isEnemyOf 8 = .ok (.aload_n 0, 1) := by decide +kernel
theorem dX7_isEnemyOf_9 : decode cX7_isEnemyOf 9 = .ok (.getfield 9, 3) := by decide +kernel
theorem dX7_isEnemyOf_12 : decode cX7_isEnemyOf 12 = .ok (.aload_n 1, 1) := by decide +kernel
theorem dX7_isEnemyOf_13 : decode cX7_isEnemyOf 13 = .ok (.getfield 9, 3) := by decide +kernel
theorem dX7_isEnemyOf_16 : decode cX7_isEnemyOf 16 = .ok (.if_icmp .eq 7, 3) := by decide +kernel
theorem dX7_isEnemyOf_19 : decode cX7_isEnemyOf 19 = .ok (.iconst 1, 1) := by decide +kernel
theorem dX7_isEnemyOf_20 : decode cX7_isEnemyOf 20 = .ok (.goto 4, 3) := by decide +kernel
theorem dX7_isEnemyOf_23 : decode cX7_isEnemyOf 23 = .ok (.iconst 0, 1) := by decide +kernel
theorem dX7_isEnemyOf_24 : decode cX7_isEnemyOf 24 = .ok (.ireturn, 1) := by decide +kernel
theorem dX2_lossOf_0 : decode cX2_lossOf 0 = .ok (.iconst 0, 1) := by decide +kernel
theorem dX2_lossOf_1 : decode cX2_lossOf 1 = .ok (.istore_n 2, 1) := by decide +kernel
theorem dX2_lossOf_2 : decode cX2_lossOf 2 = .ok (.iconst 0, 1) := by decide +kernel
theorem dX2_lossOf_3 : decode cX2_lossOf 3 = .ok (.istore_n 3, 1) := by decide +kernel
theorem dX2_lossOf_4 : decode cX2_lossOf 4 = .ok (.iload_n 3, 1) := by decide +kernel
theorem dX2_lossOf_5 : decode cX2_lossOf 5 = .ok (.iconst 4, 1) := by decide +kernel
theorem dX2_lossOf_6 : decode cX2_lossOf 6 = .ok (.if_icmp .ge 90, 3) := by decide +kernel
theorem dX2_lossOf_9 : decode cX2_lossOf 9 = .ok (.aload_n 1, 1) := by decide +kernel
theorem dX2_lossOf_10 : decode cX2_lossOf 10 = .ok (.getfield 79, 3) := by decide +kernel
theorem dX2_lossOf_13 : decode cX2_lossOf 13 = .ok (.iload_n 3, 1) := by decide +kernel
theorem dX2_lossOf_14 : decode cX2_lossOf 14 = .ok (.invokestatic 111, 3) := by decide +kernel
theorem dX2_lossOf_17 : decode cX2_lossOf 17 = .ok (.istore 4, 2) := by decide +kernel
theorem dX2_lossOf_19 : decode cX2_lossOf 19 = .ok (.iload 4, 2) := by decide +kernel
theorem dX2_lossOf_21 : decode cX2_lossOf 21 = .ok (.iconst (-1), 1) := by decide +kernel
theorem dX2_lossOf_22 : decode cX2_lossOf 22 = .ok (.if_icmp .ne 7, 3) := by decide +kernel
theorem dX2_lossOf_25 : decode cX2_lossOf 25 = .ok (.iconst (-1), 1) := by decide +kernel
theorem dX2_lossOf_26 : decode cX2_lossOf 26 = .ok (.goto 9, 3) := by decide +kernel
theorem dX2_lossOf_29 : decode cX2_lossOf 29 = .ok (.aload_n 0, 1) := by decide +kernel
theorem dX2_lossOf_30 : decode cX2_lossOf 30 = .ok (.iload 4, 2) := by decide +kernel
theorem dX2_lossOf_32 : decode cX2_lossOf 32 = .ok (.invokevirtual 121, 3) := by decide +kernel
theorem dX2_lossOf_35 : decode cX2_lossOf 35 = .ok (.istore 5, 2) := by decide +kernel
theorem dX2_lossOf_37 : decode cX2_lossOf 37 = .ok (.iload 5, 2) := by decide +kernel
theorem dX2_lossOf_39 : decode cX2_lossOf 39 = .ok (.iconst (-1), 1) := by decide +kernel
theorem dX2_lossOf_40 : decode cX2_lossOf 40 = .ok (.if_icmp .eq 50, 3) := by decide +kernel
theorem dX2_lossOf_43 : decode cX2_lossOf 43 = .ok (.aload_n 0, 1) := by decide +kernel
theorem dX2_lossOf_44 : decode cX2_lossOf 44 = .ok (.getfield 37, 3) := by decide +kernel
theorem dX2_lossOf_47 : decode cX2_lossOf 47 = .ok (.iload 5, 2) := by decide +kernel
theorem dX2_lossOf_49 : decode cX2_lossOf 49 = .ok (.aaload, 1) := by decide +kernel
theorem dX2_lossOf_50 : decode cX2_lossOf 50 = .ok (.aload_n 1, 1) := by decide +kernel
theorem dX2_lossOf_51 : decode cX2_lossOf 51 = .ok (.invokevirtual 138, 3) := by decide +kernel
theorem dX2_lossOf_54 : decode cX2_lossOf 54 = .ok (.ifCond .eq 36, 3) := by decide +kernel
theorem dX2_lossOf_57 : decode cX2_lossOf 57 = .ok (.iload_n 2, 1) := by decide +kernel
theorem dX2_lossOf_58 : decode cX2_lossOf 58 = .ok (.aload_n 0, 1) := by decide +kernel
theorem dX2_lossOf_59 : decode cX2_lossOf 59 = .ok (.getfield 96, 3) := by decide +kernel
theorem dX2_lossOf_62 : decode cX2_lossOf 62 = .ok (.getfield 142, 3) := by decide +kernel
theorem dX2_lossOf_65 : decode cX2_lossOf 65 = .ok (.iload 4, 2) := by decide +kernel
theorem dX2_lossOf_67 : decode cX2_lossOf 67 = .ok (.iaload, 1) := by decide +kernel
theorem dX2_lossOf_68 : decode cX2_lossOf 68 = .ok (.aload_n 0, 1) := by decide +kernel
theorem dX2_lossOf_69 : decode cX2_lossOf 69 = .ok (.getfield 96, 3) := by decide +kernel
theorem dX2_lossOf_72 : decode cX2_lossOf 72 = .ok (.getfield 142, 3) := by decide +kernel
theorem dX2_lossOf_75 : decode cX2_lossOf 75 = .ok (.aload_n 1, 1) := by decide +kernel
theorem dX2_lossOf_76 : decode cX2_lossOf 76 = .ok (.getfield 79, 3) := by decide +kernel
theorem dX2_lossOf_79 : decode cX2_lossOf 79 = .ok (.iaload, 1) := by decide +kernel
theorem dX2_lossOf_80 : decode cX2_lossOf 80 = .ok (.if_icmp .le 7, 3) := by decide +kernel
theorem dX2_lossOf_83 : decode cX2_lossOf 83 = .ok (.iconst 2, 1) := by decide +kernel
theorem dX2_lossOf_84 : decode cX2_lossOf 84 = .ok (.goto 4, 3) := by decide +kernel
theorem dX2_lossOf_87 : decode cX2_lossOf 87 = .ok (.iconst 1, 1) := by decide +kernel
theorem dX2_lossOf_88 : decode cX2_lossOf 88 = .ok (.iadd, 1) := by decide +kernel
theorem dX2_lossOf_89 : decode cX2_lossOf 89 = .ok (.istore_n 2, 1) := by decide +kernel
theorem dX2_lossOf_90 : decode cX2_lossOf 90 = .ok (.iinc 3 1, 3) := by decide +kernel
theorem dX2_lossOf_93 : decode cX2_lossOf 93 = .ok (.goto (-89), 3) := by decide +kernel
theorem dX2_lossOf_96 : decode cX2_lossOf 96 = .ok (.iload_n 2, 1) := by decide +kernel
theorem dX2_lossOf_97 : decode cX2_lossOf 97 = .ok (.aload_n 1, 1) := by decide +kernel
theorem dX2_lossOf_98 : decode cX2_lossOf 98 = .ok (.getfield 132, 3) := by decide +kernel
theorem dX2_lossOf_101 : decode cX2_lossOf 101 = .ok (.invokestatic 145, 3) := by decide +kernel
theorem dX2_lossOf_104 : decode cX2_lossOf 104 = .ok (.ireturn, 1) := by decide +kernel
theorem dX2_fight_0 : decode cX2_fight 0 = .ok (.iconst 0, 1) := by decide +kernel
theorem dX2_fight_1 : decode cX2_fight 1 = .ok (.istore_n 1, 1) := by decide +kernel
theorem dX2_fight_2 : decode cX2_fight 2 = .ok (.iload_n 1, 1) := by decide +kernel
theorem dX2_fight_3 : decode cX2_fight 3 = .ok (.aload_n 0, 1) := by decide +kernel
theorem dX2_fight_4 : decode cX2_fight 4 = .ok (.getfield 34, 3) := by decide +kernel
theorem dX2_fight_7 : decode cX2_fight 7 = .ok (.if_icmp .ge 28, 3) := by decide +kernel
theorem dX2_fight_10 : decode cX2_fight 10 = .ok (.aload_n 0, 1) := by decide +kernel
theorem dX2_fight_11 : decode cX2_fight 11 = .ok (.getfield 37, 3) := by decide +kernel
theorem dX2_fight_14 : decode cX2_fight 14 = .ok (.iload_n 1, 1) := by decide +kernel
theorem dX2_fight_15 : decode cX2_fight 15 = .ok (.aaload, 1) := by decide +kernel
theorem dX2_fight_16 : decode cX2_fight 16 = .ok (.aload_n 0, 1) := by decide +kernel
theorem dX2_fight_17 : decode cX2_fight 17 = .ok (.aload_n 0, 1) := by decide +kernel
theorem dX2_fight_18 : decode cX2_fight 18 = .ok (.getfield 37, 3) := by decide +kernel
theorem dX2_fight_21 : decode cX2_fight 21 = .ok (.iload_n 1, 1) := by decide +kernel
theorem dX2_fight_22 : decode cX2_fight 22 = .ok (.aaload, 1) := by decide +kernel
theorem dX2_fight_23 : decode cX2_fight 23 = .ok (.invokestatic 125, 3) := by decide +kernel
theorem dX2_fight_26 : decode cX2_fight 26 = .ok (.putfield 129, 3) := by decide +kernel
theorem dX2_fight_29 : decode cX2_fight 29 = .ok (.iinc 1 1, 3) := by decide +kernel
theorem dX2_fight_32 : decode cX2_fight 32 = .ok (.goto (-30), 3) := by decide +kernel
theorem dX2_fight_35 : decode cX2_fight 35 = .ok (.iconst 0, 1) := by decide +kernel
theorem dX2_fight_36 : decode cX2_fight 36 = .ok (.istore_n 1, 1) := by decide +kernel
theorem dX2_fight_37 : decode cX2_fight 37 = .ok (.iload_n 1, 1) := by decide +kernel
theorem dX2_fight_38 : decode cX2_fight 38 = .ok (.aload_n 0, 1) := by decide +kernel
theorem dX2_fight_39 : decode cX2_fight 39 = .ok (.getfield 34, 3) := by decide +kernel
theorem dX2_fight_42 : decode cX2_fight 42 = .ok (.if_icmp .ge 57, 3) := by decide +kernel
theorem dX2_fight_45 : decode cX2_fight 45 = .ok (.aload_n 0, 1) := by decide +kernel
theorem dX2_fight_46 : decode cX2_fight 46 = .ok (.getfield 37, 3) := by decide +kernel
theorem dX2_fight_49 : decode cX2_fight 49 = .ok (.iload_n 1, 1) := by decide +kernel
theorem dX2_fight_50 : decode cX2_fight 50 = .ok (.aaload, 1) := by decide +kernel
theorem dX2_fight_51 : decode cX2_fight 51 = .ok (.astore_n 2, 1) := by decide +kernel
theorem dX2_fight_52 : decode cX2_fight 52 = .ok (.aload_n 2, 1) := by decide +kernel
theorem dX2_fight_53 : decode cX2_fight 53 = .ok (.dup, 1) := by decide +kernel
theorem dX2_fight_54 : decode cX2_fight 54 = .ok (.getfield 132, 3) := by decide +kernel
theorem dX2_fight_57 : decode cX2_fight 57 = .ok (.aload_n 2, 1) := by decide +kernel
theorem dX2_fight_58 : decode cX2_fight 58 = .ok (.getfield 129, 3) := by decide +kernel
theorem dX2_fight_61 : decode cX2_fight 61 = .ok (.isub, 1) := by decide +kernel
theorem dX2_fight_62 : decode cX2_fight 62 = .ok (.putfield 132, 3) := by decide +kernel
theorem dX2_fight_65 : decode cX2_fight 65 = .ok (.aload_n 0, 1) := by decide +kernel
theorem dX2_fight_66 : decode cX2_fight 66 = .ok (.getfield 135, 3) := by decide +kernel
theorem dX2_fight_69 : decode cX2_fight 69 = .ok (.aload_n 2, 1) := by decide +kernel
theorem dX2_fight_70 : decode cX2_fight 70 = .ok (.getfield 108, 3) := by decide +kernel
theorem dX2_fight_73 : decode cX2_fight 73 = .ok (.dup2, 1) := by decide +kernel
theorem dX2_fight_74 : decode cX2_fight 74 = .ok (.iaload, 1) := by decide +kernel
theorem dX2_fight_75 : decode cX2_fight 75 = .ok (.aload_n 2, 1) := by decide +kernel
theorem dX2_fight_76 : decode cX2_fight 76 = .ok (.getfield 129, 3) := by decide +kernel
theorem dX2_fight_79 : decode cX2_fight 79 = .ok (.iadd, 1) := by decide +kernel
theorem dX2_fight_80 : decode cX2_fight 80 = .ok (.iastore, 1) := by decide +kernel
theorem dX2_fight_81 : decode cX2_fight 81 = .ok (.aload_n 2, 1) := by decide +kernel
theorem dX2_fight_82 : decode cX2_fight 82 = .ok (.getfield 132, 3) := by decide +kernel
theorem dX2_fight_85 : decode cX2_fight 85 = .ok (.ifCond .ne 8, 3) := by decide +kernel
theorem dX2_fight_88 : decode cX2_fight 88 = .ok (.aload_n 2, 1) := by decide +kernel
theorem dX2_fight_89 : decode cX2_fight 89 = .ok (.iconst 2, 1) := by decide +kernel
theorem dX2_fight_90 : decode cX2_fight 90 = .ok (.putfield 60, 3) := by decide +kernel
theorem dX2_fight_93 : decode cX2_fight 93 = .ok (.iinc 1 1, 3) := by decide +kernel
theorem dX2_fight_96 : decode cX2_fight 96 = .ok (.goto (-59), 3) := by decide +kernel
theorem dX2_fight_99 : decode cX2_fight 99 = .ok (.return_, 1) := by decide +kernel
theorem dX2_seesEnemy_0 : decode cX2_seesEnemy 0 = .ok (.iconst 0, 1) := by decide +kernel
theorem dX2_seesEnemy_1 : decode cX2_seesEnemy 1 = .ok (.istore_n 2, 1) := by decide +kernel
theorem dX2_seesEnemy_2 : decode cX2_seesEnemy 2 = .ok (.iload_n 2, 1) := by decide +kernel
theorem dX2_seesEnemy_3 : decode cX2_seesEnemy 3 = .ok (.aload_n 0, 1) := by decide +kernel
theorem dX2_seesEnemy_4 : decode cX2_seesEnemy 4 = .ok (.getfield 34, 3) := by decide +kernel
theorem dX2_seesEnemy_7 : decode cX2_seesEnemy 7 = .ok (.if_icmp .ge 44, 3) := by decide +kernel
theorem dX2_seesEnemy_10 : decode cX2_seesEnemy 10 = .ok (.aload_n 0, 1) := by decide +kernel
theorem dX2_seesEnemy_11 : decode cX2_seesEnemy 11 = .ok (.getfield 37, 3) := by decide +kernel
theorem dX2_seesEnemy_14 : decode cX2_seesEnemy 14 = .ok (.iload_n 2, 1) := by decide +kernel
theorem dX2_seesEnemy_15 : decode cX2_seesEnemy 15 = .ok (.aaload, 1) := by decide +kernel
theorem dX2_seesEnemy_16 : decode cX2_seesEnemy 16 = .ok (.astore_n 3, 1) := by decide +kernel
theorem dX2_seesEnemy_17 : decode cX2_seesEnemy 17 = .ok (.aload_n 3, 1) := by decide +kernel
theorem dX2_seesEnemy_18 : decode cX2_seesEnemy 18 = .ok (.aload_n 1, 1) := by decide +kernel
theorem dX2_seesEnemy_19 : decode cX2_seesEnemy 19 = .ok (.invokevirtual 138, 3) := by decide +kernel
theorem dX2_seesEnemy_22 : decode cX2_seesEnemy 22 = .ok (.ifCond .eq 23, 3) := by decide +kernel
theorem dX2_seesEnemy_25 : decode cX2_seesEnemy 25 = .ok (.aload_n 0, 1) := by decide +kernel
theorem dX2_seesEnemy_26 : decode cX2_seesEnemy 26 = .ok (.getfield 96, 3) := by decide +kernel
theorem dX2_seesEnemy_29 : decode cX2_seesEnemy 29 = .ok (.aload_n 1, 1) := by decide +kernel
theorem dX2_seesEnemy_30 : decode cX2_seesEnemy 30 = .ok (.getfield 79, 3) := by decide +kernel
theorem dX2_seesEnemy_33 : decode cX2_seesEnemy 33 = .ok (.aload_n 3, 1) := by decide +kernel
theorem dX2_seesEnemy_34 : decode cX2_seesEnemy 34 = .ok (.getfield 79, 3) := by decide +kernel
theorem dX2_seesEnemy_37 : decode cX2_seesEnemy 37 = .ok (.invokevirtual 157, 3) := by decide +kernel
theorem dX2_seesEnemy_40 : decode cX2_seesEnemy 40 = .ok (.ifCond .eq 5, 3) := by decide +kernel
theorem dX2_seesEnemy_43 : decode cX2_seesEnemy 43 = .ok (.iconst 1, 1) := by decide +kernel
theorem dX2_seesEnemy_44 : decode cX2_seesEnemy 44 = .ok (.ireturn, 1) := by decide +kernel
theorem dX2_seesEnemy_45 : decode cX2_seesEnemy 45 = .ok (.iinc 2 1, 3) := by decide +kernel
theorem dX2_seesEnemy_48 : decode cX2_seesEnemy 48 = .ok (.goto (-46), 3) := by decide +kernel
theorem dX2_seesEnemy_51 : decode cX2_seesEnemy 51 = .ok (.iconst 0, 1) := by decide +kernel
theorem dX2_seesEnemy_52 : decode cX2_seesEnemy 52 = .ok (.ireturn, 1) := by decide +kernel
theorem dX2_steadyOrRout_0 : decode cX2_steadyOrRout 0 = .ok (.aload_n 1, 1) := by decide +kernel
theorem dX2_steadyOrRout_1 : decode cX2_steadyOrRout 1 = .ok (.getfield 60, 3) := by decide +kernel
theorem dX2_steadyOrRout_4 : decode cX2_steadyOrRout 4 = .ok (.ifCond .ne 31, 3) := by decide +kernel
theorem dX2_steadyOrRout_7 : decode cX2_steadyOrRout 7 = .ok (.aload_n 1, 1) := by decide +kernel
theorem dX2_steadyOrRout_8 : decode cX2_steadyOrRout 8 = .ok (.getfield 129, 3) := by decide +kernel
theorem dX2_steadyOrRout_11 : decode cX2_steadyOrRout 11 = .ok (.ifCond .le 24, 3) := by decide +kernel
theorem dX2_steadyOrRout_14 : decode cX2_steadyOrRout 14 = .ok (.iconst 2, 1) := by decide +kernel
theorem dX2_steadyOrRout_15 : decode cX2_steadyOrRout 15 = .ok (.aload_n 1, 1) := by decide +kernel
theorem dX2_steadyOrRout_16 : decode cX2_steadyOrRout 16 = .ok (.getfield 132, 3) := by decide +kernel
theorem dX2_steadyOrRout_19 : decode cX2_steadyOrRout 19 = .ok (.imul, 1) := by decide +kernel
theorem dX2_steadyOrRout_20 : decode cX2_steadyOrRout 20 = .ok (.aload_n 1, 1) := by decide +kernel
theorem dX2_steadyOrRout_21 : decode cX2_steadyOrRout 21 = .ok (.getfield 150, 3) := by decide +kernel
theorem dX2_steadyOrRout_24 : decode cX2_steadyOrRout 24 = .ok (.if_icmp .gt 11, 3) := by decide +kernel
theorem dX2_steadyOrRout_27 : decode cX2_steadyOrRout 27 = .ok (.aload_n 1, 1) := by decide +kernel
theorem dX2_steadyOrRout_28 : decode cX2_steadyOrRout 28 = .ok (.iconst 1, 1) := by decide +kernel
theorem dX2_steadyOrRout_29 : decode cX2_steadyOrRout 29 = .ok (.putfield 60, 3) := by decide +kernel
theorem dX2_steadyOrRout_32 : decode cX2_steadyOrRout 32 = .ok (.goto 39, 3) := by decide +kernel
theorem dX2_steadyOrRout_35 : decode cX2_steadyOrRout 35 = .ok (.aload_n 1, 1) := by decide +kernel
theorem dX2_steadyOrRout_36 : decode cX2_steadyOrRout 36 = .ok (.getfield 60, 3) := by decide +kernel
theorem dX2_steadyOrRout_39 : decode cX2_steadyOrRout 39 = .ok (.iconst 1, 1) := by decide +kernel
theorem dX2_steadyOrRout_40 : decode cX2_steadyOrRout 40 = .ok (.if_icmp .ne 31, 3) := by decide +kernel
theorem dX2_steadyOrRout_43 : decode cX2_steadyOrRout 43 = .ok (.aload_n 1, 1) := by decide +kernel
theorem dX2_steadyOrRout_44 : decode cX2_steadyOrRout 44 = .ok (.getfield 129, 3) := by decide +kernel
theorem dX2_steadyOrRout_47 : decode cX2_steadyOrRout 47 = .ok (.ifCond .ne 24, 3) := by decide +kernel
theorem dX2_steadyOrRout_50 : decode cX2_steadyOrRout 50 = .ok (.aload_n 0, 1) := by decide +kernel
theorem dX2_steadyOrRout_51 : decode cX2_steadyOrRout 51 = .ok (.aload_n 1, 1) := by decide +kernel
theorem dX2_steadyOrRout_52 : decode cX2_steadyOrRout 52 = .ok (.invokestatic 153, 3) := by decide +kernel
theorem dX2_steadyOrRout_55 : decode cX2_steadyOrRout 55 = .ok (.ifCond .ne 16, 3) := by decide +kernel
theorem dX2_steadyOrRout_58 : decode cX2_steadyOrRout 58 = .ok (.aload_n 1, 1) := by decide +kernel
theorem dX2_steadyOrRout_59 : decode cX2_steadyOrRout 59 = .ok (.iconst 0, 1) := by decide +kernel
theorem dX2_steadyOrRout_60 : decode cX2_steadyOrRout 60 = .ok (.putfield 60, 3) := by decide +kernel
theorem dX2_steadyOrRout_63 : decode cX2_steadyOrRout 63 = .ok (.aload_n 1, 1) := by decide +kernel
theorem dX2_steadyOrRout_64 : decode cX2_steadyOrRout 64 = .ok (.aload_n 1, 1) := by decide +kernel
theorem dX2_steadyOrRout_65 : decode cX2_steadyOrRout 65 = .ok (.getfield 79, 3) := by decide +kernel
theorem dX2_steadyOrRout_68 : decode cX2_steadyOrRout 68 = .ok (.putfield 68, 3) := by decide +kernel
theorem dX2_steadyOrRout_71 : decode cX2_steadyOrRout 71 = .ok (.return_, 1) := by decide +kernel
theorem dX2_play_0 : decode cX2_play 0 = .ok (.iconst 0, 1) := by decide +kernel
theorem dX2_play_1 : decode cX2_play 1 = .ok (.istore_n 3, 1) := by decide +kernel
theorem dX2_play_2 : decode cX2_play 2 = .ok (.iload_n 3, 1) := by decide +kernel
theorem dX2_play_3 : decode cX2_play 3 = .ok (.iload_n 2, 1) := by decide +kernel
theorem dX2_play_4 : decode cX2_play 4 = .ok (.if_icmp .ge 61, 3) := by decide +kernel
theorem dX2_play_7 : decode cX2_play 7 = .ok (.aload_n 1, 1) := by decide +kernel
theorem dX2_play_8 : decode cX2_play 8 = .ok (.dup, 1) := by decide +kernel
theorem dX2_play_9 : decode cX2_play 9 = .ok (.getfield 18, 3) := by decide +kernel
theorem dX2_play_12 : decode cX2_play 12 = .ok (.iconst 1, 1) := by decide +kernel
theorem dX2_play_13 : decode cX2_play 13 = .ok (.iadd, 1) := by decide +kernel
theorem dX2_play_14 : decode cX2_play 14 = .ok (.putfield 18, 3) := by decide +kernel
theorem dX2_play_17 : decode cX2_play 17 = .ok (.aload_n 1, 1) := by decide +kernel
theorem dX2_play_18 : decode cX2_play 18 = .ok (.invokestatic 24, 3) := by decide +kernel
theorem dX2_play_21 : decode cX2_play 21 = .ok (.aload_n 0, 1) := by decide +kernel
theorem dX2_play_22 : decode cX2_play 22 = .ok (.aload_n 1, 1) := by decide +kernel
theorem dX2_play_23 : decode cX2_play 23 = .ok (.invokevirtual 28, 3) := by decide +kernel
theorem dX2_play_26 : decode cX2_play 26 = .ok (.aload_n 1, 1) := by decide +kernel
theorem dX2_play_27 : decode cX2_play 27 = .ok (.invokestatic 31, 3) := by decide +kernel
theorem dX2_play_30 : decode cX2_play 30 = .ok (.iconst 0, 1) := by decide +kernel
theorem dX2_play_31 : decode cX2_play 31 = .ok (.istore 4, 2) := by decide +kernel
theorem dX2_play_33 : decode cX2_play 33 = .ok (.iload 4, 2) := by decide +kernel
theorem dX2_play_35 : decode cX2_play 35 = .ok (.aload_n 1, 1) := by decide +kernel
theorem dX2_play_36 : decode cX2_play 36 = .ok (.getfield 34, 3) := by decide +kernel
theorem dX2_play_39 : decode cX2_play 39 = .ok (.if_icmp .ge 20, 3) := by decide +kernel
theorem dX2_play_42 : decode cX2_play 42 = .ok (.aload_n 1, 1) := by decide +kernel
theorem dX2_play_43 : decode cX2_play 43 = .ok (.aload_n 1, 1) := by decide +kernel
theorem dX2_play_44 : decode cX2_play 44 = .ok (.getfield 37, 3) := by decide +kernel
theorem dX2_play_47 : decode cX2_play 47 = .ok (.iload 4, 2) := by decide +kernel
theorem dX2_play_49 : decode cX2_play 49 = .ok (.aaload, 1) := by decide +kernel
theorem dX2_play_50 : decode cX2_play 50 = .ok (.invokestatic 41, 3) := by decide +kernel
theorem dX2_play_53 : decode cX2_play 53 = .ok (.iinc 4 1, 3) := by decide +kernel
theorem dX2_play_56 : decode cX2_play 56 = .ok (.goto (-23), 3) := by decide +kernel
theorem dX2_play_59 : decode cX2_play 59 = .ok (.iinc 3 1, 3) := by decide +kernel
theorem dX2_play_62 : decode cX2_play 62 = .ok (.goto (-60), 3) := by decide +kernel
theorem dX2_play_65 : decode cX2_play 65 = .ok (.return_, 1) := by decide +kernel
theorem dX3_figure_0 : decode cX3_figure 0 = .ok (.iload_n 1, 1) := by decide +kernel
theorem dX3_figure_1 : decode cX3_figure 1 = .ok (.tableswitch 42 0 2 #[27, 32, 37], 27) := by decide +kernel
theorem dX3_figure_28 : decode cX3_figure 28 = .ok (.aload_n 0, 1) := by decide +kernel
theorem dX3_figure_29 : decode cX3_figure 29 = .ok (.getfield 7, 3) := by decide +kernel
theorem dX3_figure_32 : decode cX3_figure 32 = .ok (.ireturn, 1) := by decide +kernel
theorem dX3_figure_33 : decode cX3_figure 33 = .ok (.aload_n 0, 1) := by decide +kernel
theorem dX3_figure_34 : decode cX3_figure 34 = .ok (.getfield 13, 3) := by decide +kernel
theorem dX3_figure_37 : decode cX3_figure 37 = .ok (.ireturn, 1) := by decide +kernel
theorem dX3_figure_38 : decode cX3_figure 38 = .ok (.aload_n 0, 1) := by decide +kernel
theorem dX3_figure_39 : decode cX3_figure 39 = .ok (.getfield 16, 3) := by decide +kernel
theorem dX3_figure_42 : decode cX3_figure 42 = .ok (.ireturn, 1) := by decide +kernel
theorem dX3_figure_43 : decode cX3_figure 43 = .ok (.aload_n 0, 1) := by decide +kernel
theorem dX3_figure_44 : decode cX3_figure 44 = .ok (.getfield 19, 3) := by decide +kernel
theorem dX3_figure_47 : decode cX3_figure 47 = .ok (.ireturn, 1) := by decide +kernel
theorem dX5_level_0 : decode cX5_level 0 = .ok (.iconst 0, 1) := by decide +kernel
theorem dX5_level_1 : decode cX5_level 1 = .ok (.istore 4, 2) := by decide +kernel
theorem dX5_level_3 : decode cX5_level 3 = .ok (.iload_n 1, 1) := by decide +kernel
theorem dX5_level_4 : decode cX5_level 4 = .ok (.istore 5, 2) := by decide +kernel
theorem dX5_level_6 : decode cX5_level 6 = .ok (.iload 5, 2) := by decide +kernel
theorem dX5_level_8 : decode cX5_level 8 = .ok (.iload_n 2, 1) := by decide +kernel
theorem dX5_level_9 : decode cX5_level 9 = .ok (.if_icmp .gt 67, 3) := by decide +kernel
theorem dX5_level_12 : decode cX5_level 12 = .ok (.iload 5, 2) := by decide +kernel
theorem dX5_level_14 : decode cX5_level 14 = .ok (.bipush 12, 2) := by decide +kernel
theorem dX5_level_16 : decode cX5_level 16 = .ok (.irem, 1) := by decide +kernel
theorem dX5_level_17 : decode cX5_level 17 = .ok (.iload_n 1, 1) := by decide +kernel
theorem dX5_level_18 : decode cX5_level 18 = .ok (.bipush 12, 2) := by decide +kernel
theorem dX5_level_20 : decode cX5_level 20 = .ok (.irem, 1) := by decide +kernel
theorem dX5_level_21 : decode cX5_level 21 = .ok (.if_icmp .lt 19, 3) := by decide +kernel
theorem dX5_level_24 : decode cX5_level 24 = .ok (.iload 5, 2) := by decide +kernel
theorem dX5_level_26 : decode cX5_level 26 = .ok (.bipush 12, 2) := by decide +kernel
theorem dX5_level_28 : decode cX5_level 28 = .ok (.irem, 1) := by decide +kernel
theorem dX5_level_29 : decode cX5_level 29 = .ok (.iload_n 2, 1) := by decide +kernel
theorem dX5_level_30 : decode cX5_level 30 = .ok (.bipush 12, 2) := by decide +kernel
theorem dX5_level_32 : decode cX5_level 32 = .ok (.irem, 1) := by decide +kernel
theorem dX5_level_33 : decode cX5_level 33 = .ok (.if_icmp .gt 7, 3) := by decide +kernel
theorem dX5_level_36 : decode cX5_level 36 = .ok (.iconst 1, 1) := by decide +kernel
theorem dX5_level_37 : decode cX5_level 37 = .ok (.goto 4, 3) := by decide +kernel
theorem dX5_level_40 : decode cX5_level 40 = .ok (.iconst 0, 1) := by decide +kernel
theorem dX5_level_41 : decode cX5_level 41 = .ok (.istore 6, 2) := by decide +kernel
theorem dX5_level_43 : decode cX5_level 43 = .ok (.iload 6, 2) := by decide +kernel
theorem dX5_level_45 : decode cX5_level 45 = .ok (.ifCond .eq 25, 3) := by decide +kernel
theorem dX5_level_48 : decode cX5_level 48 = .ok (.aload_n 0, 1) := by decide +kernel
theorem dX5_level_49 : decode cX5_level 49 = .ok (.getfield 9, 3) := by decide +kernel
theorem dX5_level_52 : decode cX5_level 52 = .ok (.iload 5, 2) := by decide +kernel
theorem dX5_level_54 : decode cX5_level 54 = .ok (.iaload, 1) := by decide +kernel
theorem dX5_level_55 : decode cX5_level 55 = .ok (.iload_n 3, 1) := by decide +kernel
theorem dX5_level_56 : decode cX5_level 56 = .ok (.if_icmp .eq 14, 3) := by decide +kernel
theorem dX5_level_59 : decode cX5_level 59 = .ok (.aload_n 0, 1) := by decide +kernel
theorem dX5_level_60 : decode cX5_level 60 = .ok (.getfield 9, 3) := by decide +kernel
theorem dX5_level_63 : decode cX5_level 63 = .ok (.iload 5, 2) := by decide +kernel
theorem dX5_level_65 : decode cX5_level 65 = .ok (.iload_n 3, 1) := by decide +kernel
theorem dX5_level_66 : decode cX5_level 66 = .ok (.iastore, 1) := by decide +kernel
theorem dX5_level_67 : decode cX5_level 67 = .ok (.iinc 4 1, 3) := by decide +kernel
theorem dX5_level_70 : decode cX5_level 70 = .ok (.iinc 5 1, 3) := by decide +kernel
theorem dX5_level_73 : decode cX5_level 73 = .ok (.goto (-67), 3) := by decide +kernel
theorem dX5_level_76 : decode cX5_level 76 = .ok (.iload 4, 2) := by decide +kernel
theorem dX5_level_78 : decode cX5_level 78 = .ok (.ireturn, 1) := by decide +kernel
theorem dX5_exits_0 : decode cX5_exits 0 = .ok (.iconst 0, 1) := by decide +kernel
theorem dX5_exits_1 : decode cX5_exits 1 = .ok (.istore_n 2, 1) := by decide +kernel
theorem dX5_exits_2 : decode cX5_exits 2 = .ok (.iconst 0, 1) := by decide +kernel
theorem dX5_exits_3 : decode cX5_exits 3 = .ok (.istore_n 3, 1) := by decide +kernel
theorem dX5_exits_4 : decode cX5_exits 4 = .ok (.iload_n 3, 1) := by decide +kernel
theorem dX5_exits_5 : decode cX5_exits 5 = .ok (.iconst 4, 1) := by decide +kernel
theorem dX5_exits_6 : decode cX5_exits 6 = .ok (.if_icmp .ge 35, 3) := by decide +kernel
theorem dX5_exits_9 : decode cX5_exits 9 = .ok (.iload_n 1, 1) := by decide +kernel
theorem dX5_exits_10 : decode cX5_exits 10 = .ok (.iload_n 3, 1) := by decide +kernel
theorem dX5_exits_11 : decode cX5_exits 11 = .ok (.invokestatic 21, 3) := by decide +kernel
theorem dX5_exits_14 : decode cX5_exits 14 = .ok (.istore 4, 2) := by decide +kernel
theorem dX5_exits_16 : decode cX5_exits 16 = .ok (.iload 4, 2) := by decide +kernel
theorem dX5_exits_18 : decode cX5_exits 18 = .ok (.iconst (-1), 1) := by decide +kernel
theorem dX5_exits_19 : decode cX5_exits 19 = .ok (.if_icmp .eq 16, 3) := by decide +kernel
theorem dX5_exits_22 : decode cX5_exits 22 = .ok (.aload_n 0, 1) := by decide +kernel
theorem dX5_exits_23 : decode cX5_exits 23 = .ok (.iload_n 1, 1) := by decide +kernel
theorem dX5_exits_24 : decode cX5_exits 24 = .ok (.iload 4, 2) := by decide +kernel
theorem dX5_exits_26 : decode cX5_exits 26 = .ok (.invokevirtual 25, 3) := by decide +kernel
theorem dX5_exits_29 : decode cX5_exits 29 = .ok (.ifCond .eq 6, 3) := by decide +kernel
theorem dX5_exits_32 : decode cX5_exits 32 = .ok (.iinc 2 1, 3) := by decide +kernel
theorem dX5_exits_35 : decode cX5_exits 35 = .ok (.iinc 3 1, 3) := by decide +kernel
theorem dX5_exits_38 : decode cX5_exits 38 = .ok (.goto (-34), 3) := by decide +kernel
theorem dX5_exits_41 : decode cX5_exits 41 = .ok (.iload_n 2, 1) := by decide +kernel
theorem dX5_exits_42 : decode cX5_exits 42 = .ok (.ireturn, 1) := by decide +kernel
theorem dX5_cellsInSight_0 : decode cX5_cellsInSight 0 = .ok (.iconst 0, 1) := by decide +kernel
theorem dX5_cellsInSight_1 : decode cX5_cellsInSight 1 = .ok (.istore_n 2, 1) := by decide +kernel
theorem dX5_cellsInSight_2 : decode cX5_cellsInSight 2 = .ok (.iconst 0, 1) := by decide +kernel
theorem dX5_cellsInSight_3 : decode cX5_cellsInSight 3 = .ok (.istore_n 3, 1) := by decide +kernel
theorem dX5_cellsInSight_4 : decode cX5_cellsInSight 4 = .ok (.iload_n 3, 1) := by decide +kernel
theorem dX5_cellsInSight_5 : decode cX5_cellsInSight 5 = .ok (.bipush 96, 2) := by decide +kernel
theorem dX5_cellsInSight_7 : decode cX5_cellsInSight 7 = .ok (.if_icmp .ge 21, 3) := by decide +kernel
theorem dX5_cellsInSight_10 : decode cX5_cellsInSight 10 = .ok (.aload_n 0, 1) := by decide +kernel
theorem dX5_cellsInSight_11 : decode cX5_cellsInSight 11 = .ok (.iload_n 1, 1) := by decide +kernel
theorem dX5_cellsInSight_12 : decode cX5_cellsInSight 12 = .ok (.iload_n 3, 1) := by decide +kernel
theorem dX5_cellsInSight_13 : decode cX5_cellsInSight 13 = .ok (.invokevirtual 42, 3) := by decide +kernel
theorem dX5_cellsInSight_16 : decode cX5_cellsInSight 16 = .ok (.ifCond .eq 6, 3) := by decide +kernel
theorem dX5_cellsInSight_19 : decode cX5_cellsInSight 19 = .ok (.iinc 2 1, 3) := by decide +kernel
theorem dX5_cellsInSight_22 : decode cX5_cellsInSight 22 = .ok (.iinc 3 1, 3) := by decide +kernel
theorem dX5_cellsInSight_25 : decode cX5_cellsInSight 25 = .ok (.goto (-21), 3) := by decide +kernel
theorem dX5_cellsInSight_28 : decode cX5_cellsInSight 28 = .ok (.iload_n 2, 1) := by decide +kernel
theorem dX5_cellsInSight_29 : decode cX5_cellsInSight 29 = .ok (.ireturn, 1) := by decide +kernel
theorem dX6_init_0 : decode cX6_init 0 = .ok (.aload_n 0, 1) := by decide +kernel
theorem dX6_init_1 : decode cX6_init 1 = .ok (.invokespecial 3, 3) := by decide +kernel
theorem dX6_init_4 : decode cX6_init 4 = .ok (.aload_n 0, 1) := by decide +kernel
theorem dX6_init_5 : decode cX6_init 5 = .ok (.bipush 60, 2) := by decide +kernel
theorem dX6_init_7 : decode cX6_init 7 = .ok (.newarray .int, 2) := by decide +kernel
theorem dX6_init_9 : decode cX6_init 9 = .ok (.putfield 9, 3) := by decide +kernel
theorem dX6_init_12 : decode cX6_init 12 = .ok (.aload_n 0, 1) := by decide +kernel
theorem dX6_init_13 : decode cX6_init 13 = .ok (.bipush 10, 2) := by decide +kernel
theorem dX6_init_15 : decode cX6_init 15 = .ok (.newarray .int, 2) := by decide +kernel
theorem dX6_init_17 : decode cX6_init 17 = .ok (.putfield 15, 3) := by decide +kernel
theorem dX6_init_20 : decode cX6_init 20 = .ok (.aload_n 0, 1) := by decide +kernel
theorem dX6_init_21 : decode cX6_init 21 = .ok (.bipush 10, 2) := by decide +kernel
theorem dX6_init_23 : decode cX6_init 23 = .ok (.newarray .int, 2) := by decide +kernel
theorem dX6_init_25 : decode cX6_init 25 = .ok (.putfield 18, 3) := by decide +kernel
theorem dX6_init_28 : decode cX6_init 28 = .ok (.return_, 1) := by decide +kernel
theorem dX7_muster_0 : decode cX7_muster 0 = .ok (.aload_n 0, 1) := by decide +kernel
theorem dX7_muster_1 : decode cX7_muster 1 = .ok (.iload_n 1, 1) := by decide +kernel
theorem dX7_muster_2 : decode cX7_muster 2 = .ok (.putfield 9, 3) := by decide +kernel
theorem dX7_muster_5 : decode cX7_muster 5 = .ok (.aload_n 0, 1) := by decide +kernel
theorem dX7_muster_6 : decode cX7_muster 6 = .ok (.iload_n 2, 1) := by decide +kernel
theorem dX7_muster_7 : decode cX7_muster 7 = .ok (.putfield 15, 3) := by decide +kernel
theorem dX7_muster_10 : decode cX7_muster 10 = .ok (.aload_n 0, 1) := by decide +kernel
theorem dX7_muster_11 : decode cX7_muster 11 = .ok (.iload_n 3, 1) := by decide +kernel
theorem dX7_muster_12 : decode cX7_muster 12 = .ok (.putfield 18, 3) := by decide +kernel
theorem dX7_muster_15 : decode cX7_muster 15 = .ok (.aload_n 0, 1) := by decide +kernel
theorem dX7_muster_16 : decode cX7_muster 16 = .ok (.iload_n 2, 1) := by decide +kernel
theorem dX7_muster_17 : decode cX7_muster 17 = .ok (.putfield 21, 3) := by decide +kernel
theorem dX7_muster_20 : decode cX7_muster 20 = .ok (.aload_n 0, 1) := by decide +kernel
theorem dX7_muster_21 : decode cX7_muster 21 = .ok (.iconst 0, 1) := by decide +kernel
theorem dX7_muster_22 : decode cX7_muster 22 = .ok (.putfield 24, 3) := by decide +kernel
theorem dX7_muster_25 : decode cX7_muster 25 = .ok (.aload_n 0, 1) := by decide +kernel
theorem dX7_muster_26 : decode cX7_muster 26 = .ok (.iload_n 3, 1) := by decide +kernel
theorem dX7_muster_27 : decode cX7_muster 27 = .ok (.putfield 27, 3) := by decide +kernel
theorem dX7_muster_30 : decode cX7_muster 30 = .ok (.aload_n 0, 1) := by decide +kernel
theorem dX7_muster_31 : decode cX7_muster 31 = .ok (.iconst 0, 1) := by decide +kernel
theorem dX7_muster_32 : decode cX7_muster 32 = .ok (.putfield 30, 3) := by decide +kernel
theorem dX7_muster_35 : decode cX7_muster 35 = .ok (.aload_n 0, 1) := by decide +kernel
theorem dX7_muster_36 : decode cX7_muster 36 = .ok (.iconst 0, 1) := by decide +kernel
theorem dX7_muster_37 : decode cX7_muster 37 = .ok (.putfield 33, 3) := by decide +kernel
theorem dX7_muster_40 : decode cX7_muster 40 = .ok (.return_, 1) := by decide +kernel
theorem dX8_recruit_0 : decode cX8_recruit 0 = .ok (.aload_n 0, 1) := by decide +kernel
theorem dX8_recruit_1 : decode cX8_recruit 1 = .ok (.getfield 43, 3) := by decide +kernel
theorem dX8_recruit_4 : decode cX8_recruit 4 = .ok (.istore 4, 2) := by decide +kernel
theorem dX8_recruit_6 : decode cX8_recruit 6 = .ok (.aload_n 0, 1) := by decide +kernel
theorem dX8_recruit_7 : decode cX8_recruit 7 = .ok (.getfield 24, 3) := by decide +kernel
theorem dX8_recruit_10 : decode cX8_recruit 10 = .ok (.iload 4, 2) := by decide +kernel
theorem dX8_recruit_12 : decode cX8_recruit 12 = .ok (.aaload, 1) := by decide +kernel
theorem dX8_recruit_13 : decode cX8_recruit 13 = .ok (.iload_n 1, 1) := by decide +kernel
theorem dX8_recruit_14 : decode cX8_recruit 14 = .ok (.iload_n 2, 1) := by decide +kernel
theorem dX8_recruit_15 : decode cX8_recruit 15 = .ok (.iload_n 3, 1) := by decide +kernel
theorem dX8_recruit_16 : decode cX8_recruit 16 = .ok (.invokevirtual 65, 3) := by decide +kernel
theorem dX8_recruit_19 : decode cX8_recruit 19 = .ok (.aload_n 0, 1) := by decide +kernel
theorem dX8_recruit_20 : decode cX8_recruit 20 = .ok (.dup, 1) := by decide +kernel
theorem dX8_recruit_21 : decode cX8_recruit 21 = .ok (.getfield 43, 3) := by decide +kernel
theorem dX8_recruit_24 : decode cX8_recruit 24 = .ok (.iconst 1, 1) := by decide +kernel
theorem dX8_recruit_25 : decode cX8_recruit 25 = .ok (.iadd, 1) := by decide +kernel
theorem dX8_recruit_26 : decode cX8_recruit 26 = .ok (.putfield 43, 3) := by decide +kernel
theorem dX8_recruit_29 : decode cX8_recruit 29 = .ok (.iload 4, 2) := by decide +kernel
theorem dX8_recruit_31 : decode cX8_recruit 31 = .ok (.ireturn, 1) := by decide +kernel
theorem dX8_enqueue_0 : decode cX8_enqueue 0 = .ok (.aload_n 0, 1) := by decide +kernel
theorem dX8_enqueue_1 : decode cX8_enqueue 1 = .ok (.getfield 50, 3) := by decide +kernel
theorem dX8_enqueue_4 : decode cX8_enqueue 4 = .ok (.istore 4, 2) := by decide +kernel
theorem dX8_enqueue_6 : decode cX8_enqueue 6 = .ok (.iload 4, 2) := by decide +kernel
theorem dX8_enqueue_8 : decode cX8_enqueue 8 = .ok (.ifCond .le 44, 3) := by decide +kernel
theorem dX8_enqueue_11 : decode cX8_enqueue 11 = .ok (.aload_n 0, 1) := by decide +kernel
theorem dX8_enqueue_12 : decode cX8_enqueue 12 = .ok (.getfield 30, 3) := by decide +kernel
theorem dX8_enqueue_15 : decode cX8_enqueue 15 = .ok (.iload 4, 2) := by decide +kernel
theorem dX8_enqueue_17 : decode cX8_enqueue 17 = .ok (.iconst 1, 1) := by decide +kernel
theorem dX8_enqueue_18 : decode cX8_enqueue 18 = .ok (.isub, 1) := by decide +kernel
theorem dX8_enqueue_19 : decode cX8_enqueue 19 = .ok (.aaload, 1) := by decide +kernel
theorem dX8_enqueue_20 : decode cX8_enqueue 20 = .ok (.getfield 69, 3) := by decide +kernel
theorem dX8_enqueue_23 : decode cX8_enqueue 23 = .ok (.iload_n 3, 1) := by decide +kernel
theorem dX8_enqueue_24 : decode cX8_enqueue 24 = .ok (.if_icmp .le 28, 3) := by decide +kernel
theorem dX8_enqueue_27 : decode cX8_enqueue 27 = .ok (.aload_n 0, 1) := by decide +kernel
theorem dX8_enqueue_28 : decode cX8_enqueue 28 = .ok (.getfield 30, 3) := by decide +kernel
theorem dX8_enqueue_31 : decode cX8_enqueue 31 = .ok (.iload 4, 2) := by decide +kernel
theorem dX8_enqueue_33 : decode cX8_enqueue 33 = .ok (.aaload, 1) := by decide +kernel
theorem dX8_enqueue_34 : decode cX8_enqueue 34 = .ok (.aload_n 0, 1) := by decide +kernel
theorem dX8_enqueue_35 : decode cX8_enqueue 35 = .ok (.getfield 30, 3) := by decide +kernel
theorem dX8_enqueue_38 : decode cX8_enqueue 38 = .ok (.iload 4, 2) := by decide +kernel
theorem dX8_enqueue_40 : decode cX8_enqueue 40 = .ok (.iconst 1, 1) := by decide +kernel
theorem dX8_enqueue_41 : decode cX8_enqueue 41 = .ok (.isub, 1) := by decide +kernel
theorem dX8_enqueue_42 : decode cX8_enqueue 42 = .ok (.aaload, 1) := by decide +kernel
theorem dX8_enqueue_43 : decode cX8_enqueue 43 = .ok (.invokevirtual 53, 3) := by decide +kernel
theorem dX8_enqueue_46 : decode cX8_enqueue 46 = .ok (.iinc 4 (-1), 3) := by decide +kernel
theorem dX8_enqueue_49 : decode cX8_enqueue 49 = .ok (.goto (-43), 3) := by decide +kernel
theorem dX8_enqueue_52 : decode cX8_enqueue 52 = .ok (.aload_n 0, 1) := by decide +kernel
theorem dX8_enqueue_53 : decode cX8_enqueue 53 = .ok (.getfield 30, 3) := by decide +kernel
theorem dX8_enqueue_56 : decode cX8_enqueue 56 = .ok (.iload 4, 2) := by decide +kernel
theorem dX8_enqueue_58 : decode cX8_enqueue 58 = .ok (.aaload, 1) := by decide +kernel
theorem dX8_enqueue_59 : decode cX8_enqueue 59 = .ok (.aload_n 0, 1) := by decide +kernel
theorem dX8_enqueue_60 : decode cX8_enqueue 60 = .ok (.getfield 59, 3) := by decide +kernel
theorem dX8_enqueue_63 : decode cX8_enqueue 63 = .ok (.iload_n 1, 1) := by decide +kernel
theorem dX8_enqueue_64 : decode cX8_enqueue 64 = .ok (.iload_n 2, 1) := by decide +kernel
theorem dX8_enqueue_65 : decode cX8_enqueue 65 = .ok (.iload_n 3, 1) := by decide +kernel
theorem dX8_enqueue_66 : decode cX8_enqueue 66 = .ok (.invokevirtual 72, 3) := by decide +kernel
theorem dX8_enqueue_69 : decode cX8_enqueue 69 = .ok (.aload_n 0, 1) := by decide +kernel
theorem dX8_enqueue_70 : decode cX8_enqueue 70 = .ok (.dup, 1) := by decide +kernel
theorem dX8_enqueue_71 : decode cX8_enqueue 71 = .ok (.getfield 50, 3) := by decide +kernel
theorem dX8_enqueue_74 : decode cX8_enqueue 74 = .ok (.iconst 1, 1) := by decide +kernel
theorem dX8_enqueue_75 : decode cX8_enqueue 75 = .ok (.iadd, 1) := by decide +kernel
theorem dX8_enqueue_76 : decode cX8_enqueue 76 = .ok (.putfield 50, 3) := by decide +kernel
theorem dX8_enqueue_79 : decode cX8_enqueue 79 = .ok (.aload_n 0, 1) := by decide +kernel
theorem dX8_enqueue_80 : decode cX8_enqueue 80 = .ok (.dup, 1) := by decide +kernel
theorem dX8_enqueue_81 : decode cX8_enqueue 81 = .ok (.getfield 59, 3) := by decide +kernel
theorem dX8_enqueue_84 : decode cX8_enqueue 84 = .ok (.iconst 1, 1) := by decide +kernel
theorem dX8_enqueue_85 : decode cX8_enqueue 85 = .ok (.iadd, 1) := by decide +kernel
theorem dX8_enqueue_86 : decode cX8_enqueue 86 = .ok (.putfield 59, 3) := by decide +kernel
theorem dX8_enqueue_89 : decode cX8_enqueue 89 = .ok (.return_, 1) := by decide +kernel
theorem dX8_cellFigure_0 : decode cX8_cellFigure 0 = .ok (.iload_n 2, 1) := by decide +kernel
theorem dX8_cellFigure_1 : decode cX8_cellFigure 1 = .ok (.tableswitch 52 0 2 #[27, 37, 43], 27) := by decide +kernel
theorem dX8_cellFigure_28 : decode cX8_cellFigure 28 = .ok (.aload_n 0, 1) := by decide +kernel
theorem dX8_cellFigure_29 : decode cX8_cellFigure 29 = .ok (.getfield 12, 3) := by decide +kernel
theorem dX8_cellFigure_32 : decode cX8_cellFigure 32 = .ok (.getfield 82, 3) := by decide +kernel
theorem dX8_cellFigure_35 : decode cX8_cellFigure 35 = .ok (.iload_n 1, 1) := by decide +kernel
theorem dX8_cellFigure_36 : decode cX8_cellFigure 36 = .ok (.iaload, 1) := by decide +kernel
theorem dX8_cellFigure_37 : decode cX8_cellFigure 37 = .ok (.ireturn, 1) := by decide +kernel
theorem dX8_cellFigure_38 : decode cX8_cellFigure 38 = .ok (.aload_n 0, 1) := by decide +kernel
theorem dX8_cellFigure_39 : decode cX8_cellFigure 39 = .ok (.iload_n 1, 1) := by decide +kernel
theorem dX8_cellFigure_40 : decode cX8_cellFigure 40 = .ok (.invokevirtual 85, 3) := by decide +kernel
theorem dX8_cellFigure_43 : decode cX8_cellFigure 43 = .ok (.ireturn, 1) := by decide +kernel
theorem dX8_cellFigure_44 : decode cX8_cellFigure 44 = .ok (.aload_n 0, 1) := by decide +kernel
theorem dX8_cellFigure_45 : decode cX8_cellFigure 45 = .ok (.getfield 12, 3) := by decide +kernel
theorem dX8_cellFigure_48 : decode cX8_cellFigure 48 = .ok (.iload_n 1, 1) := by decide +kernel
theorem dX8_cellFigure_49 : decode cX8_cellFigure 49 = .ok (.invokevirtual 89, 3) := by decide +kernel
theorem dX8_cellFigure_52 : decode cX8_cellFigure 52 = .ok (.ireturn, 1) := by decide +kernel
theorem dX8_cellFigure_53 : decode cX8_cellFigure 53 = .ok (.aload_n 0, 1) := by decide +kernel
theorem dX8_cellFigure_54 : decode cX8_cellFigure 54 = .ok (.getfield 12, 3) := by decide +kernel
theorem dX8_cellFigure_57 : decode cX8_cellFigure 57 = .ok (.iload_n 1, 1) := by decide +kernel
theorem dX8_cellFigure_58 : decode cX8_cellFigure 58 = .ok (.invokevirtual 92, 3) := by decide +kernel
theorem dX8_cellFigure_61 : decode cX8_cellFigure 61 = .ok (.ireturn, 1) := by decide +kernel
end
section
theorem dX8_ordersFor_0 : decode cX8_ordersFor 0 = .ok (.iconst 0, 1) := by decide +kernel
theorem dX8_ordersFor_1 : decode cX8_ordersFor 1 = .ok (.istore_n 2, 1) := by decide +kernel
theorem dX8_ordersFor_2 : decode cX8_ordersFor 2 = .ok (.iconst 0, 1) := by decide +kernel
theorem dX8_ordersFor_3 : decode cX8_ordersFor 3 = .ok (.istore_n 3, 1) := by decide +kernel
theorem dX8_ordersFor_4 : decode cX8_ordersFor 4 = .ok (.iload_n 3, 1) := by decide +kernel
theorem dX8_ordersFor_5 : decode cX8_ordersFor 5 = .ok (.aload_n 0, 1) := by decide +kernel
theorem dX8_ordersFor_6 : decode cX8_ordersFor 6 = .ok (.getfield 50, 3) := by decide +kernel
theorem dX8_ordersFor_9 : decode cX8_ordersFor 9 = .ok (.if_icmp .ge 25, 3) := by decide +kernel
theorem dX8_ordersFor_12 : decode cX8_ordersFor 12 = .ok (.aload_n 0, 1) := by decide +kernel
theorem dX8_ordersFor_13 : decode cX8_ordersFor 13 = .ok (.getfield 30, 3) := by decide +kernel
theorem dX8_ordersFor_16 : decode cX8_ordersFor 16 = .ok (.iload_n 3, 1) := by decide +kernel
theorem dX8_ordersFor_17 : decode cX8_ordersFor 17 = .ok (.aaload, 1) := by decide +kernel
theorem dX8_ordersFor_18 : decode cX8_ordersFor 18 = .ok (.getfield 122, 3) := by decide +kernel
theorem dX8_ordersFor_21 : decode cX8_ordersFor 21 = .ok (.iload_n 1, 1) := by decide +kernel
theorem dX8_ordersFor_22 : decode cX8_ordersFor 22 = .ok (.if_icmp .ne 6, 3) := by decide +kernel
theorem dX8_ordersFor_25 : decode cX8_ordersFor 25 = .ok (.iinc 2 1, 3) := by decide +kernel
theorem dX8_ordersFor_28 : decode cX8_ordersFor 28 = .ok (.iinc 3 1, 3) := by decide +kernel
theorem dX8_ordersFor_31 : decode cX8_ordersFor 31 = .ok (.goto (-27), 3) := by decide +kernel
theorem dX8_ordersFor_34 : decode cX8_ordersFor 34 = .ok (.iload_n 2, 1) := by decide +kernel
theorem dX8_ordersFor_35 : decode cX8_ordersFor 35 = .ok (.ireturn, 1) := by decide +kernel
theorem dX8_troopFigure_0 : decode cX8_troopFigure 0 = .ok (.aload_n 0, 1) := by decide +kernel
theorem dX8_troopFigure_1 : decode cX8_troopFigure 1 = .ok (.getfield 24, 3) := by decide +kernel
theorem dX8_troopFigure_4 : decode cX8_troopFigure 4 = .ok (.iload_n 1, 1) := by decide +kernel
theorem dX8_troopFigure_5 : decode cX8_troopFigure 5 = .ok (.aaload, 1) := by decide +kernel
theorem dX8_troopFigure_6 : decode cX8_troopFigure 6 = .ok (.astore_n 3, 1) := by decide +kernel
theorem dX8_troopFigure_7 : decode cX8_troopFigure 7 = .ok (.iload_n 2, 1) := by decide +kernel
theorem dX8_troopFigure_8 : decode cX8_troopFigure 8 = .ok (.tableswitch 89 0 7 #[48, 53, 58, 63, 68, 73, 78, 83], 48) := by decide +kernel
theorem dX8_troopFigure_56 : decode cX8_troopFigure 56 = .ok (.aload_n 3, 1) := by decide +kernel
theorem dX8_troopFigure_57 : decode cX8_troopFigure 57 = .ok (.getfield 95, 3) := by decide +kernel
theorem dX8_troopFigure_60 : decode cX8_troopFigure 60 = .ok (.ireturn, 1) := by decide +kernel
theorem dX8_troopFigure_61 : decode cX8_troopFigure 61 = .ok (.aload_n 3, 1) := by decide +kernel
theorem dX8_troopFigure_62 : decode cX8_troopFigure 62 = .ok (.getfield 79, 3) := by decide +kernel
theorem dX8_troopFigure_65 : decode cX8_troopFigure 65 = .ok (.ireturn, 1) := by decide +kernel
theorem dX8_troopFigure_66 : decode cX8_troopFigure 66 = .ok (.aload_n 3, 1) := by decide +kernel
theorem dX8_troopFigure_67 : decode cX8_troopFigure 67 = .ok (.getfield 98, 3) := by decide +kernel
theorem dX8_troopFigure_70 : decode cX8_troopFigure 70 = .ok (.ireturn, 1) := by decide +kernel
theorem dX8_troopFigure_71 : decode cX8_troopFigure 71 = .ok (.aload_n 3, 1) := by decide +kernel
theorem dX8_troopFigure_72 : decode cX8_troopFigure 72 = .ok (.getfield 101, 3) := by decide +kernel
theorem dX8_troopFigure_75 : decode cX8_troopFigure 75 = .ok (.ireturn, 1) := by decide +kernel
theorem dX8_troopFigure_76 : decode cX8_troopFigure 76 = .ok (.aload_n 3, 1) := by decide +kernel
theorem dX8_troopFigure_77 : decode cX8_troopFigure 77 = .ok (.getfield 76, 3) := by decide +kernel
theorem dX8_troopFigure_80 : decode cX8_troopFigure 80 = .ok (.ireturn, 1) := by decide +kernel
theorem dX8_troopFigure_81 : decode cX8_troopFigure 81 = .ok (.aload_n 3, 1) := by decide +kernel
theorem dX8_troopFigure_82 : decode cX8_troopFigure 82 = .ok (.getfield 104, 3) := by decide +kernel
theorem dX8_troopFigure_85 : decode cX8_troopFigure 85 = .ok (.ireturn, 1) := by decide +kernel
theorem dX8_troopFigure_86 : decode cX8_troopFigure 86 = .ok (.aload_n 3, 1) := by decide +kernel
theorem dX8_troopFigure_87 : decode cX8_troopFigure 87 = .ok (.getfield 107, 3) := by decide +kernel
theorem dX8_troopFigure_90 : decode cX8_troopFigure 90 = .ok (.ireturn, 1) := by decide +kernel
theorem dX8_troopFigure_91 : decode cX8_troopFigure 91 = .ok (.aload_n 0, 1) := by decide +kernel
theorem dX8_troopFigure_92 : decode cX8_troopFigure 92 = .ok (.iload_n 1, 1) := by decide +kernel
theorem dX8_troopFigure_93 : decode cX8_troopFigure 93 = .ok (.invokevirtual 110, 3) := by decide +kernel
theorem dX8_troopFigure_96 : decode cX8_troopFigure 96 = .ok (.ireturn, 1) := by decide +kernel
theorem dX8_troopFigure_97 : decode cX8_troopFigure 97 = .ok (.aload_n 3, 1) := by decide +kernel
theorem dX8_troopFigure_98 : decode cX8_troopFigure 98 = .ok (.getfield 113, 3) := by decide +kernel
theorem dX8_troopFigure_101 : decode cX8_troopFigure 101 = .ok (.ireturn, 1) := by decide +kernel
theorem dX8_troopsThatAre_0 : decode cX8_troopsThatAre 0 = .ok (.iconst 0, 1) := by decide +kernel
theorem dX8_troopsThatAre_1 : decode cX8_troopsThatAre 1 = .ok (.istore_n 2, 1) := by decide +kernel
theorem dX8_troopsThatAre_2 : decode cX8_troopsThatAre 2 = .ok (.iconst 0, 1) := by decide +kernel
theorem dX8_troopsThatAre_3 : decode cX8_troopsThatAre 3 = .ok (.istore_n 3, 1) := by decide +kernel
theorem dX8_troopsThatAre_4 : decode cX8_troopsThatAre 4 = .ok (.iload_n 3, 1) := by decide +kernel
theorem dX8_troopsThatAre_5 : decode cX8_troopsThatAre 5 = .ok (.aload_n 0, 1) := by decide +kernel
theorem dX8_troopsThatAre_6 : decode cX8_troopsThatAre 6 = .ok (.getfield 43, 3) := by decide +kernel
theorem dX8_troopsThatAre_9 : decode cX8_troopsThatAre 9 = .ok (.if_icmp .ge 25, 3) := by decide +kernel
theorem dX8_troopsThatAre_12 : decode cX8_troopsThatAre 12 = .ok (.aload_n 0, 1) := by decide +kernel
theorem dX8_troopsThatAre_13 : decode cX8_troopsThatAre 13 = .ok (.getfield 24, 3) := by decide +kernel
theorem dX8_troopsThatAre_16 : decode cX8_troopsThatAre 16 = .ok (.iload_n 3, 1) := by decide +kernel
theorem dX8_troopsThatAre_17 : decode cX8_troopsThatAre 17 = .ok (.aaload, 1) := by decide +kernel
theorem dX8_troopsThatAre_18 : decode cX8_troopsThatAre 18 = .ok (.getfield 76, 3) := by decide +kernel
theorem dX8_troopsThatAre_21 : decode cX8_troopsThatAre 21 = .ok (.iload_n 1, 1) := by decide +kernel
theorem dX8_troopsThatAre_22 : decode cX8_troopsThatAre 22 = .ok (.if_icmp .ne 6, 3) := by decide +kernel
theorem dX8_troopsThatAre_25 : decode cX8_troopsThatAre 25 = .ok (.iinc 2 1, 3) := by decide +kernel
theorem dX8_troopsThatAre_28 : decode cX8_troopsThatAre 28 = .ok (.iinc 3 1, 3) := by decide +kernel
theorem dX8_troopsThatAre_31 : decode cX8_troopsThatAre 31 = .ok (.goto (-27), 3) := by decide +kernel
theorem dX8_troopsThatAre_34 : decode cX8_troopsThatAre 34 = .ok (.iload_n 2, 1) := by decide +kernel
theorem dX8_troopsThatAre_35 : decode cX8_troopsThatAre 35 = .ok (.ireturn, 1) := by decide +kernel
theorem dX8_strengthOf_0 : decode cX8_strengthOf 0 = .ok (.iconst 0, 1) := by decide +kernel
theorem dX8_strengthOf_1 : decode cX8_strengthOf 1 = .ok (.istore_n 2, 1) := by decide +kernel
theorem dX8_strengthOf_2 : decode cX8_strengthOf 2 = .ok (.iconst 0, 1) := by decide +kernel
theorem dX8_strengthOf_3 : decode cX8_strengthOf 3 = .ok (.istore_n 3, 1) := by decide +kernel
theorem dX8_strengthOf_4 : decode cX8_strengthOf 4 = .ok (.iload_n 3, 1) := by decide +kernel
theorem dX8_strengthOf_5 : decode cX8_strengthOf 5 = .ok (.aload_n 0, 1) := by decide +kernel
theorem dX8_strengthOf_6 : decode cX8_strengthOf 6 = .ok (.getfield 43, 3) := by decide +kernel
theorem dX8_strengthOf_9 : decode cX8_strengthOf 9 = .ok (.if_icmp .ge 34, 3) := by decide +kernel
theorem dX8_strengthOf_12 : decode cX8_strengthOf 12 = .ok (.aload_n 0, 1) := by decide +kernel
theorem dX8_strengthOf_13 : decode cX8_strengthOf 13 = .ok (.getfield 24, 3) := by decide +kernel
theorem dX8_strengthOf_16 : decode cX8_strengthOf 16 = .ok (.iload_n 3, 1) := by decide +kernel
theorem dX8_strengthOf_17 : decode cX8_strengthOf 17 = .ok (.aaload, 1) := by decide +kernel
theorem dX8_strengthOf_18 : decode cX8_strengthOf 18 = .ok (.getfield 95, 3) := by decide +kernel
theorem dX8_strengthOf_21 : decode cX8_strengthOf 21 = .ok (.iload_n 1, 1) := by decide +kernel
theorem dX8_strengthOf_22 : decode cX8_strengthOf 22 = .ok (.if_icmp .ne 15, 3) := by decide +kernel
theorem dX8_strengthOf_25 : decode cX8_strengthOf 25 = .ok (.iload_n 2, 1) := by decide +kernel
theorem dX8_strengthOf_26 : decode cX8_strengthOf 26 = .ok (.aload_n 0, 1) := by decide +kernel
theorem dX8_strengthOf_27 : decode cX8_strengthOf 27 = .ok (.getfield 24, 3) := by decide +kernel
theorem dX8_strengthOf_30 : decode cX8_strengthOf 30 = .ok (.iload_n 3, 1) := by decide +kernel
theorem dX8_strengthOf_31 : decode cX8_strengthOf 31 = .ok (.aaload, 1) := by decide +kernel
theorem dX8_strengthOf_32 : decode cX8_strengthOf 32 = .ok (.getfield 98, 3) := by decide +kernel
theorem dX8_strengthOf_35 : decode cX8_strengthOf 35 = .ok (.iadd, 1) := by decide +kernel
theorem dX8_strengthOf_36 : decode cX8_strengthOf 36 = .ok (.istore_n 2, 1) := by decide +kernel
theorem dX8_strengthOf_37 : decode cX8_strengthOf 37 = .ok (.iinc 3 1, 3) := by decide +kernel
theorem dX8_strengthOf_40 : decode cX8_strengthOf 40 = .ok (.goto (-36), 3) := by decide +kernel
theorem dX8_strengthOf_43 : decode cX8_strengthOf 43 = .ok (.iload_n 2, 1) := by decide +kernel
theorem dX8_strengthOf_44 : decode cX8_strengthOf 44 = .ok (.ireturn, 1) := by decide +kernel
theorem dX8_figure_0 : decode cX8_figure 0 = .ok (.iload_n 1, 1) := by decide +kernel
theorem dX8_figure_1 : decode cX8_figure 1 = .ok (.tableswitch 138 0 11 #[63, 68, 73, 84, 90, 95, 100, 105, 112, 119, 125, 131], 63) := by decide +kernel
theorem dX8_figure_64 : decode cX8_figure 64 = .ok (.aload_n 0, 1) := by decide +kernel
theorem dX8_figure_65 : decode cX8_figure 65 = .ok (.getfield 56, 3) := by decide +kernel
theorem dX8_figure_68 : decode cX8_figure 68 = .ok (.ireturn, 1) := by decide +kernel
theorem dX8_figure_69 : decode cX8_figure 69 = .ok (.aload_n 0, 1) := by decide +kernel
theorem dX8_figure_70 : decode cX8_figure 70 = .ok (.getfield 43, 3) := by decide +kernel
theorem dX8_figure_73 : decode cX8_figure 73 = .ok (.ireturn, 1) := by decide +kernel
theorem dX8_figure_74 : decode cX8_figure 74 = .ok (.aload_n 0, 1) := by decide +kernel
theorem dX8_figure_75 : decode cX8_figure 75 = .ok (.getfield 43, 3) := by decide +kernel
theorem dX8_figure_78 : decode cX8_figure 78 = .ok (.aload_n 0, 1) := by decide +kernel
theorem dX8_figure_79 : decode cX8_figure 79 = .ok (.iconst 2, 1) := by decide +kernel
theorem dX8_figure_80 : decode cX8_figure 80 = .ok (.invokevirtual 116, 3) := by decide +kernel
theorem dX8_figure_83 : decode cX8_figure 83 = .ok (.isub, 1) := by decide +kernel
theorem dX8_figure_84 : decode cX8_figure 84 = .ok (.ireturn, 1) := by decide +kernel
theorem dX8_figure_85 : decode cX8_figure 85 = .ok (.aload_n 0, 1) := by decide +kernel
theorem dX8_figure_86 : decode cX8_figure 86 = .ok (.iconst 1, 1) := by decide +kernel
theorem dX8_figure_87 : decode cX8_figure 87 = .ok (.invokevirtual 116, 3) := by decide +kernel
theorem dX8_figure_90 : decode cX8_figure 90 = .ok (.ireturn, 1) := by decide +kernel
theorem dX8_figure_91 : decode cX8_figure 91 = .ok (.aload_n 0, 1) := by decide +kernel
theorem dX8_figure_92 : decode cX8_figure 92 = .ok (.getfield 59, 3) := by decide +kernel
theorem dX8_figure_95 : decode cX8_figure 95 = .ok (.ireturn, 1) := by decide +kernel
theorem dX8_figure_96 : decode cX8_figure 96 = .ok (.aload_n 0, 1) := by decide +kernel
theorem dX8_figure_97 : decode cX8_figure 97 = .ok (.getfield 50, 3) := by decide +kernel
theorem dX8_figure_100 : decode cX8_figure 100 = .ok (.ireturn, 1) := by decide +kernel
theorem dX8_figure_101 : decode cX8_figure 101 = .ok (.aload_n 0, 1) := by decide +kernel
theorem dX8_figure_102 : decode cX8_figure 102 = .ok (.getfield 62, 3) := by decide +kernel
theorem dX8_figure_105 : decode cX8_figure 105 = .ok (.ireturn, 1) := by decide +kernel
theorem dX8_figure_106 : decode cX8_figure 106 = .ok (.aload_n 0, 1) := by decide +kernel
theorem dX8_figure_107 : decode cX8_figure 107 = .ok (.getfield 34, 3) := by decide +kernel
theorem dX8_figure_110 : decode cX8_figure 110 = .ok (.iconst 0, 1) := by decide +kernel
theorem dX8_figure_111 : decode cX8_figure 111 = .ok (.iaload, 1) := by decide +kernel
theorem dX8_figure_112 : decode cX8_figure 112 = .ok (.ireturn, 1) := by decide +kernel
theorem dX8_figure_113 : decode cX8_figure 113 = .ok (.aload_n 0, 1) := by decide +kernel
theorem dX8_figure_114 : decode cX8_figure 114 = .ok (.getfield 34, 3) := by decide +kernel
theorem dX8_figure_117 : decode cX8_figure 117 = .ok (.iconst 1, 1) := by decide +kernel
theorem dX8_figure_118 : decode cX8_figure 118 = .ok (.iaload, 1) := by decide +kernel
theorem dX8_figure_119 : decode cX8_figure 119 = .ok (.ireturn, 1) := by decide +kernel
theorem dX8_figure_120 : decode cX8_figure 120 = .ok (.aload_n 0, 1) := by decide +kernel
theorem dX8_figure_121 : decode cX8_figure 121 = .ok (.iconst 0, 1) := by decide +kernel
theorem dX8_figure_122 : decode cX8_figure 122 = .ok (.invokevirtual 119, 3) := by decide +kernel
theorem dX8_figure_125 : decode cX8_figure 125 = .ok (.ireturn, 1) := by decide +kernel
theorem dX8_figure_126 : decode cX8_figure 126 = .ok (.aload_n 0, 1) := by decide +kernel
theorem dX8_figure_127 : decode cX8_figure 127 = .ok (.iconst 1, 1) := by decide +kernel
theorem dX8_figure_128 : decode cX8_figure 128 = .ok (.invokevirtual 119, 3) := by decide +kernel
theorem dX8_figure_131 : decode cX8_figure 131 = .ok (.ireturn, 1) := by decide +kernel
theorem dX8_figure_132 : decode cX8_figure 132 = .ok (.aload_n 0, 1) := by decide +kernel
theorem dX8_figure_133 : decode cX8_figure 133 = .ok (.getfield 18, 3) := by decide +kernel
theorem dX8_figure_136 : decode cX8_figure 136 = .ok (.iconst 0, 1) := by decide +kernel
theorem dX8_figure_137 : decode cX8_figure 137 = .ok (.iaload, 1) := by decide +kernel
theorem dX8_figure_138 : decode cX8_figure 138 = .ok (.ireturn, 1) := by decide +kernel
theorem dX8_figure_139 : decode cX8_figure 139 = .ok (.aload_n 0, 1) := by decide +kernel
theorem dX8_figure_140 : decode cX8_figure 140 = .ok (.getfield 18, 3) := by decide +kernel
theorem dX8_figure_143 : decode cX8_figure 143 = .ok (.iconst 1, 1) := by decide +kernel
theorem dX8_figure_144 : decode cX8_figure 144 = .ok (.iaload, 1) := by decide +kernel
theorem dX8_figure_145 : decode cX8_figure 145 = .ok (.ireturn, 1) := by decide +kernel
theorem dX8_lostByBoth_0 : decode cX8_lostByBoth 0 = .ok (.aload_n 0, 1) := by decide +kernel
theorem dX8_lostByBoth_1 : decode cX8_lostByBoth 1 = .ok (.getfield 34, 3) := by decide +kernel
theorem dX8_lostByBoth_4 : decode cX8_lostByBoth 4 = .ok (.iconst 0, 1) := by decide +kernel
theorem dX8_lostByBoth_5 : decode cX8_lostByBoth 5 = .ok (.iaload, 1) := by decide +kernel
theorem dX8_lostByBoth_6 : decode cX8_lostByBoth 6 = .ok (.aload_n 0, 1) := by decide +kernel
theorem dX8_lostByBoth_7 : decode cX8_lostByBoth 7 = .ok (.getfield 34, 3) := by decide +kernel
theorem dX8_lostByBoth_10 : decode cX8_lostByBoth 10 = .ok (.iconst 1, 1) := by decide +kernel
theorem dX8_lostByBoth_11 : decode cX8_lostByBoth 11 = .ok (.iaload, 1) := by decide +kernel
theorem dX8_lostByBoth_12 : decode cX8_lostByBoth 12 = .ok (.iadd, 1) := by decide +kernel
theorem dX8_lostByBoth_13 : decode cX8_lostByBoth 13 = .ok (.ireturn, 1) := by decide +kernel
theorem dX8_shareLeft_0 : decode cX8_shareLeft 0 = .ok (.iconst 0, 1) := by decide +kernel
theorem dX8_shareLeft_1 : decode cX8_shareLeft 1 = .ok (.istore_n 1, 1) := by decide +kernel
theorem dX8_shareLeft_2 : decode cX8_shareLeft 2 = .ok (.iconst 0, 1) := by decide +kernel
theorem dX8_shareLeft_3 : decode cX8_shareLeft 3 = .ok (.istore_n 2, 1) := by decide +kernel
theorem dX8_shareLeft_4 : decode cX8_shareLeft 4 = .ok (.iload_n 2, 1) := by decide +kernel
theorem dX8_shareLeft_5 : decode cX8_shareLeft 5 = .ok (.aload_n 0, 1) := by decide +kernel
theorem dX8_shareLeft_6 : decode cX8_shareLeft 6 = .ok (.getfield 43, 3) := by decide +kernel
theorem dX8_shareLeft_9 : decode cX8_shareLeft 9 = .ok (.if_icmp .ge 21, 3) := by decide +kernel
theorem dX8_shareLeft_12 : decode cX8_shareLeft 12 = .ok (.iload_n 1, 1) := by decide +kernel
theorem dX8_shareLeft_13 : decode cX8_shareLeft 13 = .ok (.aload_n 0, 1) := by decide +kernel
theorem dX8_shareLeft_14 : decode cX8_shareLeft 14 = .ok (.getfield 24, 3) := by decide +kernel
theorem dX8_shareLeft_17 : decode cX8_shareLeft 17 = .ok (.iload_n 2, 1) := by decide +kernel
theorem dX8_shareLeft_18 : decode cX8_shareLeft 18 = .ok (.aaload, 1) := by decide +kernel
theorem dX8_shareLeft_19 : decode cX8_shareLeft 19 = .ok (.getfield 104, 3) := by decide +kernel
theorem dX8_shareLeft_22 : decode cX8_shareLeft 22 = .ok (.iadd, 1) := by decide +kernel
theorem dX8_shareLeft_23 : decode cX8_shareLeft 23 = .ok (.istore_n 1, 1) := by decide +kernel
theorem dX8_shareLeft_24 : decode cX8_shareLeft 24 = .ok (.iinc 2 1, 3) := by decide +kernel
theorem dX8_shareLeft_27 : decode cX8_shareLeft 27 = .ok (.goto (-23), 3) := by decide +kernel
theorem dX8_shareLeft_30 : decode cX8_shareLeft 30 = .ok (.iload_n 1, 1) := by decide +kernel
theorem dX8_shareLeft_31 : decode cX8_shareLeft 31 = .ok (.iconst 1, 1) := by decide +kernel
theorem dX8_shareLeft_32 : decode cX8_shareLeft 32 = .ok (.if_icmp .ge 7, 3) := by decide +kernel
theorem dX8_shareLeft_35 : decode cX8_shareLeft 35 = .ok (.dconst 1, 1) := by decide +kernel
theorem dX8_shareLeft_36 : decode cX8_shareLeft 36 = .ok (.goto 18, 3) := by decide +kernel
theorem dX8_shareLeft_39 : decode cX8_shareLeft 39 = .ok (.aload_n 0, 1) := by decide +kernel
theorem dX8_shareLeft_40 : decode cX8_shareLeft 40 = .ok (.iconst 0, 1) := by decide +kernel
theorem dX8_shareLeft_41 : decode cX8_shareLeft 41 = .ok (.invokevirtual 119, 3) := by decide +kernel
theorem dX8_shareLeft_44 : decode cX8_shareLeft 44 = .ok (.aload_n 0, 1) := by decide +kernel
theorem dX8_shareLeft_45 : decode cX8_shareLeft 45 = .ok (.iconst 1, 1) := by decide +kernel
theorem dX8_shareLeft_46 : decode cX8_shareLeft 46 = .ok (.invokevirtual 119, 3) := by decide +kernel
theorem dX8_shareLeft_49 : decode cX8_shareLeft 49 = .ok (.iadd, 1) := by decide +kernel
theorem dX8_shareLeft_50 : decode cX8_shareLeft 50 = .ok (.i2d, 1) := by decide +kernel
theorem dX8_shareLeft_51 : decode cX8_shareLeft 51 = .ok (.iload_n 1, 1) := by decide +kernel
theorem dX8_shareLeft_52 : decode cX8_shareLeft 52 = .ok (.i2d, 1) := by decide +kernel
theorem dX8_shareLeft_53 : decode cX8_shareLeft 53 = .ok (.ddiv, 1) := by decide +kernel
theorem dX8_shareLeft_54 : decode cX8_shareLeft 54 = .ok (.dreturn, 1) := by decide +kernel
theorem dX9_init_0 : decode cX9_init 0 = .ok (.aload_n 0, 1) := by decide +kernel
theorem dX9_init_1 : decode cX9_init 1 = .ok (.invokespecial 3, 3) := by decide +kernel
theorem dX9_init_4 : decode cX9_init 4 = .ok (.aload_n 0, 1) := by decide +kernel
theorem dX9_init_5 : decode cX9_init 5 = .ok (.new 9, 3) := by decide +kernel
theorem dX9_init_8 : decode cX9_init 8 = .ok (.dup, 1) := by decide +kernel
theorem dX9_init_9 : decode cX9_init 9 = .ok (.invokespecial 11, 3) := by decide +kernel
theorem dX9_init_12 : decode cX9_init 12 = .ok (.putfield 12, 3) := by decide +kernel
theorem dX9_init_15 : decode cX9_init 15 = .ok (.aload_n 0, 1) := by decide +kernel
theorem dX9_init_16 : decode cX9_init 16 = .ok (.new 9, 3) := by decide +kernel
theorem dX9_init_19 : decode cX9_init 19 = .ok (.dup, 1) := by decide +kernel
theorem dX9_init_20 : decode cX9_init 20 = .ok (.invokespecial 11, 3) := by decide +kernel
theorem dX9_init_23 : decode cX9_init 23 = .ok (.putfield 16, 3) := by decide +kernel
theorem dX9_init_26 : decode cX9_init 26 = .ok (.aload_n 0, 1) := by decide +kernel
theorem dX9_init_27 : decode cX9_init 27 = .ok (.new 19, 3) := by decide +kernel
theorem dX9_init_30 : decode cX9_init 30 = .ok (.dup, 1) := by decide +kernel
theorem dX9_init_31 : decode cX9_init 31 = .ok (.invokespecial 21, 3) := by decide +kernel
theorem dX9_init_34 : decode cX9_init 34 = .ok (.putfield 22, 3) := by decide +kernel
theorem dX9_init_37 : decode cX9_init 37 = .ok (.aload_n 0, 1) := by decide +kernel
theorem dX9_init_38 : decode cX9_init 38 = .ok (.new 26, 3) := by decide +kernel
theorem dX9_init_41 : decode cX9_init 41 = .ok (.dup, 1) := by decide +kernel
theorem dX9_init_42 : decode cX9_init 42 = .ok (.invokespecial 28, 3) := by decide +kernel
theorem dX9_init_45 : decode cX9_init 45 = .ok (.putfield 29, 3) := by decide +kernel
theorem dX9_init_48 : decode cX9_init 48 = .ok (.aload_n 0, 1) := by decide +kernel
theorem dX9_init_49 : decode cX9_init 49 = .ok (.new 33, 3) := by decide +kernel
theorem dX9_init_52 : decode cX9_init 52 = .ok (.dup, 1) := by decide +kernel
theorem dX9_init_53 : decode cX9_init 53 = .ok (.invokespecial 35, 3) := by decide +kernel
theorem dX9_init_56 : decode cX9_init 56 = .ok (.putfield 36, 3) := by decide +kernel
theorem dX9_init_59 : decode cX9_init 59 = .ok (.aload_n 0, 1) := by decide +kernel
theorem dX9_init_60 : decode cX9_init 60 = .ok (.new 40, 3) := by decide +kernel
theorem dX9_init_63 : decode cX9_init 63 = .ok (.dup, 1) := by decide +kernel
theorem dX9_init_64 : decode cX9_init 64 = .ok (.invokespecial 42, 3) := by decide +kernel
theorem dX9_init_67 : decode cX9_init 67 = .ok (.putfield 43, 3) := by decide +kernel
theorem dX9_init_70 : decode cX9_init 70 = .ok (.return_, 1) := by decide +kernel
theorem dX9_needCell_0 : decode cX9_needCell 0 = .ok (.iload_n 0, 1) := by decide +kernel
theorem dX9_needCell_1 : decode cX9_needCell 1 = .ok (.ifCond .lt 9, 3) := by decide +kernel
theorem dX9_needCell_4 : decode cX9_needCell 4 = .ok (.iload_n 0, 1) := by decide +kernel
theorem dX9_needCell_5 : decode cX9_needCell 5 = .ok (.bipush 96, 2) := by decide +kernel
theorem dX9_needCell_7 : decode cX9_needCell 7 = .ok (.if_icmp .lt 14, 3) := by decide +kernel
theorem dX9_needCell_10 : decode cX9_needCell 10 = .ok (.new 181, 3) := by decide +kernel
theorem dX9_needCell_13 : decode cX9_needCell 13 = .ok (.dup, 1) := by decide +kernel
theorem dX9_needCell_14 : decode cX9_needCell 14 = .ok (.ldc_w 265, 3) := by decide +kernel
theorem dX9_needCell_17 : decode cX9_needCell 17 = .ok (.invokespecial 185, 3) := by decide +kernel
theorem dX9_needCell_20 : decode cX9_needCell 20 = .ok (.athrow, 1) := by decide +kernel
theorem dX9_needCell_21 : decode cX9_needCell 21 = .ok (.return_, 1) := by decide +kernel
theorem dX9_shape_0 : decode cX9_shape 0 = .ok (.iload_n 1, 1) := by decide +kernel
theorem dX9_shape_1 : decode cX9_shape 1 = .ok (.invokestatic 47, 3) := by decide +kernel
theorem dX9_shape_4 : decode cX9_shape 4 = .ok (.iload_n 2, 1) := by decide +kernel
theorem dX9_shape_5 : decode cX9_shape 5 = .ok (.invokestatic 47, 3) := by decide +kernel
theorem dX9_shape_8 : decode cX9_shape 8 = .ok (.iload_n 1, 1) := by decide +kernel
theorem dX9_shape_9 : decode cX9_shape 9 = .ok (.bipush 12, 2) := by decide +kernel
theorem dX9_shape_11 : decode cX9_shape 11 = .ok (.irem, 1) := by decide +kernel
theorem dX9_shape_12 : decode cX9_shape 12 = .ok (.iload_n 2, 1) := by decide +kernel
theorem dX9_shape_13 : decode cX9_shape 13 = .ok (.bipush 12, 2) := by decide +kernel
theorem dX9_shape_15 : decode cX9_shape 15 = .ok (.irem, 1) := by decide +kernel
theorem dX9_shape_16 : decode cX9_shape 16 = .ok (.if_icmp .gt 14, 3) := by decide +kernel
theorem dX9_shape_19 : decode cX9_shape 19 = .ok (.iload_n 1, 1) := by decide +kernel
theorem dX9_shape_20 : decode cX9_shape 20 = .ok (.bipush 12, 2) := by decide +kernel
theorem dX9_shape_22 : decode cX9_shape 22 = .ok (.idiv, 1) := by decide +kernel
theorem dX9_shape_23 : decode cX9_shape 23 = .ok (.iload_n 2, 1) := by decide +kernel
theorem dX9_shape_24 : decode cX9_shape 24 = .ok (.bipush 12, 2) := by decide +kernel
theorem dX9_shape_26 : decode cX9_shape 26 = .ok (.idiv, 1) := by decide +kernel
theorem dX9_shape_27 : decode cX9_shape 27 = .ok (.if_icmp .le 13, 3) := by decide +kernel
theorem dX9_shape_30 : decode cX9_shape 30 = .ok (.new 51, 3) := by decide +kernel
theorem dX9_shape_33 : decode cX9_shape 33 = .ok (.dup, 1) := by decide +kernel
theorem dX9_shape_34 : decode cX9_shape 34 = .ok (.ldc 53, 2) := by decide +kernel
theorem dX9_shape_36 : decode cX9_shape 36 = .ok (.invokespecial 55, 3) := by decide +kernel
theorem dX9_shape_39 : decode cX9_shape 39 = .ok (.athrow, 1) := by decide +kernel
theorem dX9_shape_40 : decode cX9_shape 40 = .ok (.iload_n 3, 1) := by decide +kernel
theorem dX9_shape_41 : decode cX9_shape 41 = .ok (.ifCond .lt 9, 3) := by decide +kernel
theorem dX9_shape_44 : decode cX9_shape 44 = .ok (.iload_n 3, 1) := by decide +kernel
theorem dX9_shape_45 : decode cX9_shape 45 = .ok (.bipush 9, 2) := by decide +kernel
theorem dX9_shape_47 : decode cX9_shape 47 = .ok (.if_icmp .le 13, 3) := by decide +kernel
theorem dX9_shape_50 : decode cX9_shape 50 = .ok (.new 51, 3) := by decide +kernel
theorem dX9_shape_53 : decode cX9_shape 53 = .ok (.dup, 1) := by decide +kernel
theorem dX9_shape_54 : decode cX9_shape 54 = .ok (.ldc 58, 2) := by decide +kernel
theorem dX9_shape_56 : decode cX9_shape 56 = .ok (.invokespecial 55, 3) := by decide +kernel
theorem dX9_shape_59 : decode cX9_shape 59 = .ok (.athrow, 1) := by decide +kernel
theorem dX9_shape_60 : decode cX9_shape 60 = .ok (.aload_n 0, 1) := by decide +kernel
theorem dX9_shape_61 : decode cX9_shape 61 = .ok (.getfield 22, 3) := by decide +kernel
theorem dX9_shape_64 : decode cX9_shape 64 = .ok (.aload_n 0, 1) := by decide +kernel
theorem dX9_shape_65 : decode cX9_shape 65 = .ok (.getfield 12, 3) := by decide +kernel
theorem dX9_shape_68 : decode cX9_shape 68 = .ok (.invokevirtual 60, 3) := by decide +kernel
theorem dX9_shape_71 : decode cX9_shape 71 = .ok (.aload_n 0, 1) := by decide +kernel
theorem dX9_shape_72 : decode cX9_shape 72 = .ok (.getfield 12, 3) := by decide +kernel
theorem dX9_shape_75 : decode cX9_shape 75 = .ok (.getfield 64, 3) := by decide +kernel
theorem dX9_shape_78 : decode cX9_shape 78 = .ok (.iload_n 1, 1) := by decide +kernel
theorem dX9_shape_79 : decode cX9_shape 79 = .ok (.iload_n 2, 1) := by decide +kernel
theorem dX9_shape_80 : decode cX9_shape 80 = .ok (.iload_n 3, 1) := by decide +kernel
theorem dX9_shape_81 : decode cX9_shape 81 = .ok (.invokevirtual 68, 3) := by decide +kernel
theorem dX9_shape_84 : decode cX9_shape 84 = .ok (.ireturn, 1) := by decide +kernel
theorem dX9_needSide_0 : decode cX9_needSide 0 = .ok (.iload_n 0, 1) := by decide +kernel
theorem dX9_needSide_1 : decode cX9_needSide 1 = .ok (.ifCond .lt 8, 3) := by decide +kernel
theorem dX9_needSide_4 : decode cX9_needSide 4 = .ok (.iload_n 0, 1) := by decide +kernel
theorem dX9_needSide_5 : decode cX9_needSide 5 = .ok (.iconst 2, 1) := by decide +kernel
theorem dX9_needSide_6 : decode cX9_needSide 6 = .ok (.if_icmp .lt 14, 3) := by decide +kernel
theorem dX9_needSide_9 : decode cX9_needSide 9 = .ok (.new 181, 3) := by decide +kernel
theorem dX9_needSide_12 : decode cX9_needSide 12 = .ok (.dup, 1) := by decide +kernel
theorem dX9_needSide_13 : decode cX9_needSide 13 = .ok (.ldc_w 267, 3) := by decide +kernel
theorem dX9_needSide_16 : decode cX9_needSide 16 = .ok (.invokespecial 185, 3) := by decide +kernel
theorem dX9_needSide_19 : decode cX9_needSide 19 = .ok (.athrow, 1) := by decide +kernel
theorem dX9_needSide_20 : decode cX9_needSide 20 = .ok (.return_, 1) := by decide +kernel
theorem dX9_moveGeneral_0 : decode cX9_moveGeneral 0 = .ok (.iload_n 1, 1) := by decide +kernel
theorem dX9_moveGeneral_1 : decode cX9_moveGeneral 1 = .ok (.invokestatic 74, 3) := by decide +kernel
theorem dX9_moveGeneral_4 : decode cX9_moveGeneral 4 = .ok (.iload_n 2, 1) := by decide +kernel
theorem dX9_moveGeneral_5 : decode cX9_moveGeneral 5 = .ok (.invokestatic 47, 3) := by decide +kernel
theorem dX9_moveGeneral_8 : decode cX9_moveGeneral 8 = .ok (.aload_n 0, 1) := by decide +kernel
theorem dX9_moveGeneral_9 : decode cX9_moveGeneral 9 = .ok (.getfield 22, 3) := by decide +kernel
theorem dX9_moveGeneral_12 : decode cX9_moveGeneral 12 = .ok (.aload_n 0, 1) := by decide +kernel
theorem dX9_moveGeneral_13 : decode cX9_moveGeneral 13 = .ok (.getfield 12, 3) := by decide +kernel
theorem dX9_moveGeneral_16 : decode cX9_moveGeneral 16 = .ok (.invokevirtual 60, 3) := by decide +kernel
theorem dX9_moveGeneral_19 : decode cX9_moveGeneral 19 = .ok (.aload_n 0, 1) := by decide +kernel
theorem dX9_moveGeneral_20 : decode cX9_moveGeneral 20 = .ok (.getfield 12, 3) := by decide +kernel
theorem dX9_moveGeneral_23 : decode cX9_moveGeneral 23 = .ok (.getfield 77, 3) := by decide +kernel
theorem dX9_moveGeneral_26 : decode cX9_moveGeneral 26 = .ok (.iload_n 1, 1) := by decide +kernel
theorem dX9_moveGeneral_27 : decode cX9_moveGeneral 27 = .ok (.iaload, 1) := by decide +kernel
theorem dX9_moveGeneral_28 : decode cX9_moveGeneral 28 = .ok (.istore_n 3, 1) := by decide +kernel
theorem dX9_moveGeneral_29 : decode cX9_moveGeneral 29 = .ok (.aload_n 0, 1) := by decide +kernel
theorem dX9_moveGeneral_30 : decode cX9_moveGeneral 30 = .ok (.getfield 12, 3) := by decide +kernel
theorem dX9_moveGeneral_33 : decode cX9_moveGeneral 33 = .ok (.getfield 77, 3) := by decide +kernel
theorem dX9_moveGeneral_36 : decode cX9_moveGeneral 36 = .ok (.iload_n 1, 1) := by decide +kernel
theorem dX9_moveGeneral_37 : decode cX9_moveGeneral 37 = .ok (.iload_n 2, 1) := by decide +kernel
theorem dX9_moveGeneral_38 : decode cX9_moveGeneral 38 = .ok (.iastore, 1) := by decide +kernel
theorem dX9_moveGeneral_39 : decode cX9_moveGeneral 39 = .ok (.iload_n 3, 1) := by decide +kernel
theorem dX9_moveGeneral_40 : decode cX9_moveGeneral 40 = .ok (.ireturn, 1) := by decide +kernel
theorem dX9_addTroop_0 : decode cX9_addTroop 0 = .ok (.iload_n 1, 1) := by decide +kernel
theorem dX9_addTroop_1 : decode cX9_addTroop 1 = .ok (.invokestatic 74, 3) := by decide +kernel
theorem dX9_addTroop_4 : decode cX9_addTroop 4 = .ok (.iload_n 2, 1) := by decide +kernel
theorem dX9_addTroop_5 : decode cX9_addTroop 5 = .ok (.invokestatic 47, 3) := by decide +kernel
theorem dX9_addTroop_8 : decode cX9_addTroop 8 = .ok (.iload_n 3, 1) := by decide +kernel
theorem dX9_addTroop_9 : decode cX9_addTroop 9 = .ok (.iconst 1, 1) := by decide +kernel
theorem dX9_addTroop_10 : decode cX9_addTroop 10 = .ok (.if_icmp .lt 9, 3) := by decide +kernel
theorem dX9_addTroop_13 : decode cX9_addTroop 13 = .ok (.iload_n 3, 1) := by decide +kernel
theorem dX9_addTroop_14 : decode cX9_addTroop 14 = .ok (.bipush 20, 2) := by decide +kernel
theorem dX9_addTroop_16 : decode cX9_addTroop 16 = .ok (.if_icmp .le 13, 3) := by decide +kernel
theorem dX9_addTroop_19 : decode cX9_addTroop 19 = .ok (.new 51, 3) := by decide +kernel
theorem dX9_addTroop_22 : decode cX9_addTroop 22 = .ok (.dup, 1) := by decide +kernel
theorem dX9_addTroop_23 : decode cX9_addTroop 23 = .ok (.ldc 81, 2) := by decide +kernel
theorem dX9_addTroop_25 : decode cX9_addTroop 25 = .ok (.invokespecial 55, 3) := by decide +kernel
theorem dX9_addTroop_28 : decode cX9_addTroop 28 = .ok (.athrow, 1) := by decide +kernel
theorem dX9_addTroop_29 : decode cX9_addTroop 29 = .ok (.aload_n 0, 1) := by decide +kernel
theorem dX9_addTroop_30 : decode cX9_addTroop 30 = .ok (.getfield 12, 3) := by decide +kernel
theorem dX9_addTroop_33 : decode cX9_addTroop 33 = .ok (.getfield 83, 3) := by decide +kernel
theorem dX9_addTroop_36 : decode cX9_addTroop 36 = .ok (.bipush 12, 2) := by decide +kernel
theorem dX9_addTroop_38 : decode cX9_addTroop 38 = .ok (.if_icmp .ge 15, 3) := by decide +kernel
theorem dX9_addTroop_41 : decode cX9_addTroop 41 = .ok (.aload_n 0, 1) := by decide +kernel
theorem dX9_addTroop_42 : decode cX9_addTroop 42 = .ok (.getfield 12, 3) := by decide +kernel
theorem dX9_addTroop_45 : decode cX9_addTroop 45 = .ok (.iload_n 2, 1) := by decide +kernel
theorem dX9_addTroop_46 : decode cX9_addTroop 46 = .ok (.invokevirtual 87, 3) := by decide +kernel
theorem dX9_addTroop_49 : decode cX9_addTroop 49 = .ok (.iconst (-1), 1) := by decide +kernel
theorem dX9_addTroop_50 : decode cX9_addTroop 50 = .ok (.if_icmp .eq 13, 3) := by decide +kernel
theorem dX9_addTroop_53 : decode cX9_addTroop 53 = .ok (.new 91, 3) := by decide +kernel
theorem dX9_addTroop_56 : decode cX9_addTroop 56 = .ok (.dup, 1) := by decide +kernel
theorem dX9_addTroop_57 : decode cX9_addTroop 57 = .ok (.ldc 93, 2) := by decide +kernel
theorem dX9_addTroop_59 : decode cX9_addTroop 59 = .ok (.invokespecial 95, 3) := by decide +kernel
theorem dX9_addTroop_62 : decode cX9_addTroop 62 = .ok (.athrow, 1) := by decide +kernel
theorem dX9_addTroop_63 : decode cX9_addTroop 63 = .ok (.aload_n 0, 1) := by decide +kernel
theorem dX9_addTroop_64 : decode cX9_addTroop 64 = .ok (.getfield 22, 3) := by decide +kernel
theorem dX9_addTroop_67 : decode cX9_addTroop 67 = .ok (.aload_n 0, 1) := by decide +kernel
theorem dX9_addTroop_68 : decode cX9_addTroop 68 = .ok (.getfield 12, 3) := by decide +kernel
theorem dX9_addTroop_71 : decode cX9_addTroop 71 = .ok (.invokevirtual 60, 3) := by decide +kernel
theorem dX9_addTroop_74 : decode cX9_addTroop 74 = .ok (.aload_n 0, 1) := by decide +kernel
theorem dX9_addTroop_75 : decode cX9_addTroop 75 = .ok (.getfield 12, 3) := by decide +kernel
theorem dX9_addTroop_78 : decode cX9_addTroop 78 = .ok (.iload_n 1, 1) := by decide +kernel
theorem dX9_addTroop_79 : decode cX9_addTroop 79 = .ok (.iload_n 2, 1) := by decide +kernel
theorem dX9_addTroop_80 : decode cX9_addTroop 80 = .ok (.iload_n 3, 1) := by decide +kernel
theorem dX9_addTroop_81 : decode cX9_addTroop 81 = .ok (.invokevirtual 96, 3) := by decide +kernel
theorem dX9_addTroop_84 : decode cX9_addTroop 84 = .ok (.ireturn, 1) := by decide +kernel
theorem dX9_needTroop_0 : decode cX9_needTroop 0 = .ok (.iload_n 1, 1) := by decide +kernel
theorem dX9_needTroop_1 : decode cX9_needTroop 1 = .ok (.ifCond .lt 14, 3) := by decide +kernel
theorem dX9_needTroop_4 : decode cX9_needTroop 4 = .ok (.iload_n 1, 1) := by decide +kernel
theorem dX9_needTroop_5 : decode cX9_needTroop 5 = .ok (.aload_n 0, 1) := by decide +kernel
theorem dX9_needTroop_6 : decode cX9_needTroop 6 = .ok (.getfield 12, 3) := by decide +kernel
theorem dX9_needTroop_9 : decode cX9_needTroop 9 = .ok (.getfield 83, 3) := by decide +kernel
theorem dX9_needTroop_12 : decode cX9_needTroop 12 = .ok (.if_icmp .lt 14, 3) := by decide +kernel
theorem dX9_needTroop_15 : decode cX9_needTroop 15 = .ok (.new 181, 3) := by decide +kernel
theorem dX9_needTroop_18 : decode cX9_needTroop 18 = .ok (.dup, 1) := by decide +kernel
theorem dX9_needTroop_19 : decode cX9_needTroop 19 = .ok (.ldc_w 269, 3) := by decide +kernel
theorem dX9_needTroop_22 : decode cX9_needTroop 22 = .ok (.invokespecial 185, 3) := by decide +kernel
theorem dX9_needTroop_25 : decode cX9_needTroop 25 = .ok (.athrow, 1) := by decide +kernel
theorem dX9_needTroop_26 : decode cX9_needTroop 26 = .ok (.return_, 1) := by decide +kernel
theorem dX9_sendOrder_0 : decode cX9_sendOrder 0 = .ok (.aload_n 0, 1) := by decide +kernel
theorem dX9_sendOrder_1 : decode cX9_sendOrder 1 = .ok (.getfield 36, 3) := by decide +kernel
theorem dX9_sendOrder_4 : decode cX9_sendOrder 4 = .ok (.aload_n 0, 1) := by decide +kernel
theorem dX9_sendOrder_5 : decode cX9_sendOrder 5 = .ok (.getfield 12, 3) := by decide +kernel
theorem dX9_sendOrder_8 : decode cX9_sendOrder 8 = .ok (.iload_n 1, 1) := by decide +kernel
theorem dX9_sendOrder_9 : decode cX9_sendOrder 9 = .ok (.invokevirtual 275, 3) := by decide +kernel
theorem dX9_sendOrder_12 : decode cX9_sendOrder 12 = .ok (.istore_n 3, 1) := by decide +kernel
theorem dX9_sendOrder_13 : decode cX9_sendOrder 13 = .ok (.aload_n 0, 1) := by decide +kernel
theorem dX9_sendOrder_14 : decode cX9_sendOrder 14 = .ok (.getfield 12, 3) := by decide +kernel
theorem dX9_sendOrder_17 : decode cX9_sendOrder 17 = .ok (.iload_n 1, 1) := by decide +kernel
theorem dX9_sendOrder_18 : decode cX9_sendOrder 18 = .ok (.iload_n 2, 1) := by decide +kernel
theorem dX9_sendOrder_19 : decode cX9_sendOrder 19 = .ok (.aload_n 0, 1) := by decide +kernel
theorem dX9_sendOrder_20 : decode cX9_sendOrder 20 = .ok (.getfield 12, 3) := by decide +kernel
theorem dX9_sendOrder_23 : decode cX9_sendOrder 23 = .ok (.getfield 115, 3) := by decide +kernel
theorem dX9_sendOrder_26 : decode cX9_sendOrder 26 = .ok (.iload_n 3, 1) := by decide +kernel
theorem dX9_sendOrder_27 : decode cX9_sendOrder 27 = .ok (.iadd, 1) := by decide +kernel
theorem dX9_sendOrder_28 : decode cX9_sendOrder 28 = .ok (.invokevirtual 278, 3) := by decide +kernel
theorem dX9_sendOrder_31 : decode cX9_sendOrder 31 = .ok (.iload_n 3, 1) := by decide +kernel
theorem dX9_sendOrder_32 : decode cX9_sendOrder 32 = .ok (.ireturn, 1) := by decide +kernel
theorem dX9_order_0 : decode cX9_order 0 = .ok (.aload_n 0, 1) := by decide +kernel
theorem dX9_order_1 : decode cX9_order 1 = .ok (.iload_n 1, 1) := by decide +kernel
theorem dX9_order_2 : decode cX9_order 2 = .ok (.invokevirtual 99, 3) := by decide +kernel
theorem dX9_order_5 : decode cX9_order 5 = .ok (.iload_n 2, 1) := by decide +kernel
theorem dX9_order_6 : decode cX9_order 6 = .ok (.invokestatic 47, 3) := by decide +kernel
theorem dX9_order_9 : decode cX9_order 9 = .ok (.aload_n 0, 1) := by decide +kernel
theorem dX9_order_10 : decode cX9_order 10 = .ok (.getfield 36, 3) := by decide +kernel
theorem dX9_order_13 : decode cX9_order 13 = .ok (.aload_n 0, 1) := by decide +kernel
theorem dX9_order_14 : decode cX9_order 14 = .ok (.getfield 12, 3) := by decide +kernel
theorem dX9_order_17 : decode cX9_order 17 = .ok (.iload_n 1, 1) := by decide +kernel
theorem dX9_order_18 : decode cX9_order 18 = .ok (.invokevirtual 102, 3) := by decide +kernel
theorem dX9_order_21 : decode cX9_order 21 = .ok (.ifCond .eq 13, 3) := by decide +kernel
theorem dX9_order_24 : decode cX9_order 24 = .ok (.new 91, 3) := by decide +kernel
theorem dX9_order_27 : decode cX9_order 27 = .ok (.dup, 1) := by decide +kernel
theorem dX9_order_28 : decode cX9_order 28 = .ok (.ldc 106, 2) := by decide +kernel
theorem dX9_order_30 : decode cX9_order 30 = .ok (.invokespecial 95, 3) := by decide +kernel
theorem dX9_order_33 : decode cX9_order 33 = .ok (.athrow, 1) := by decide +kernel
theorem dX9_order_34 : decode cX9_order 34 = .ok (.aload_n 0, 1) := by decide +kernel
theorem dX9_order_35 : decode cX9_order 35 = .ok (.getfield 22, 3) := by decide +kernel
theorem dX9_order_38 : decode cX9_order 38 = .ok (.aload_n 0, 1) := by decide +kernel
theorem dX9_order_39 : decode cX9_order 39 = .ok (.getfield 12, 3) := by decide +kernel
theorem dX9_order_42 : decode cX9_order 42 = .ok (.invokevirtual 60, 3) := by decide +kernel
theorem dX9_order_45 : decode cX9_order 45 = .ok (.aload_n 0, 1) := by decide +kernel
theorem dX9_order_46 : decode cX9_order 46 = .ok (.iload_n 1, 1) := by decide +kernel
theorem dX9_order_47 : decode cX9_order 47 = .ok (.iload_n 2, 1) := by decide +kernel
theorem dX9_order_48 : decode cX9_order 48 = .ok (.invokevirtual 108, 3) := by decide +kernel
theorem dX9_order_51 : decode cX9_order 51 = .ok (.ireturn, 1) := by decide +kernel
theorem dX9_needTurns_0 : decode cX9_needTurns 0 = .ok (.iload_n 0, 1) := by decide +kernel
theorem dX9_needTurns_1 : decode cX9_needTurns 1 = .ok (.iconst 1, 1) := by decide +kernel
theorem dX9_needTurns_2 : decode cX9_needTurns 2 = .ok (.if_icmp .lt 9, 3) := by decide +kernel
theorem dX9_needTurns_5 : decode cX9_needTurns 5 = .ok (.iload_n 0, 1) := by decide +kernel
theorem dX9_needTurns_6 : decode cX9_needTurns 6 = .ok (.bipush 50, 2) := by decide +kernel
theorem dX9_needTurns_8 : decode cX9_needTurns 8 = .ok (.if_icmp .le 14, 3) := by decide +kernel
theorem dX9_needTurns_11 : decode cX9_needTurns 11 = .ok (.new 51, 3) := by decide +kernel
theorem dX9_needTurns_14 : decode cX9_needTurns 14 = .ok (.dup, 1) := by decide +kernel
theorem dX9_needTurns_15 : decode cX9_needTurns 15 = .ok (.ldc_w 273, 3) := by decide +kernel
theorem dX9_needTurns_18 : decode cX9_needTurns 18 = .ok (.invokespecial 55, 3) := by decide +kernel
theorem dX9_needTurns_21 : decode cX9_needTurns 21 = .ok (.athrow, 1) := by decide +kernel
theorem dX9_needTurns_22 : decode cX9_needTurns 22 = .ok (.return_, 1) := by decide +kernel
theorem dX9_pass_0 : decode cX9_pass 0 = .ok (.iload_n 1, 1) := by decide +kernel
theorem dX9_pass_1 : decode cX9_pass 1 = .ok (.invokestatic 112, 3) := by decide +kernel
theorem dX9_pass_4 : decode cX9_pass 4 = .ok (.aload_n 0, 1) := by decide +kernel
theorem dX9_pass_5 : decode cX9_pass 5 = .ok (.getfield 12, 3) := by decide +kernel
theorem dX9_pass_8 : decode cX9_pass 8 = .ok (.getfield 115, 3) := by decide +kernel
theorem dX9_pass_11 : decode cX9_pass 11 = .ok (.iload_n 1, 1) := by decide +kernel
theorem dX9_pass_12 : decode cX9_pass 12 = .ok (.iadd, 1) := by decide +kernel
theorem dX9_pass_13 : decode cX9_pass 13 = .ok (.sipush 1000, 3) := by decide +kernel
theorem dX9_pass_16 : decode cX9_pass 16 = .ok (.if_icmp .le 13, 3) := by decide +kernel
theorem dX9_pass_19 : decode cX9_pass 19 = .ok (.new 91, 3) := by decide +kernel
theorem dX9_pass_22 : decode cX9_pass 22 = .ok (.dup, 1) := by decide +kernel
theorem dX9_pass_23 : decode cX9_pass 23 = .ok (.ldc 118, 2) := by decide +kernel
theorem dX9_pass_25 : decode cX9_pass 25 = .ok (.invokespecial 95, 3) := by decide +kernel
theorem dX9_pass_28 : decode cX9_pass 28 = .ok (.athrow, 1) := by decide +kernel
theorem dX9_pass_29 : decode cX9_pass 29 = .ok (.aload_n 0, 1) := by decide +kernel
theorem dX9_pass_30 : decode cX9_pass 30 = .ok (.getfield 22, 3) := by decide +kernel
theorem dX9_pass_33 : decode cX9_pass 33 = .ok (.aload_n 0, 1) := by decide +kernel
theorem dX9_pass_34 : decode cX9_pass 34 = .ok (.getfield 12, 3) := by decide +kernel
theorem dX9_pass_37 : decode cX9_pass 37 = .ok (.invokevirtual 60, 3) := by decide +kernel
theorem dX9_pass_40 : decode cX9_pass 40 = .ok (.aload_n 0, 1) := by decide +kernel
theorem dX9_pass_41 : decode cX9_pass 41 = .ok (.getfield 12, 3) := by decide +kernel
theorem dX9_pass_44 : decode cX9_pass 44 = .ok (.invokevirtual 120, 3) := by decide +kernel
theorem dX9_pass_47 : decode cX9_pass 47 = .ok (.istore_n 2, 1) := by decide +kernel
theorem dX9_pass_48 : decode cX9_pass 48 = .ok (.aload_n 0, 1) := by decide +kernel
theorem dX9_pass_49 : decode cX9_pass 49 = .ok (.getfield 43, 3) := by decide +kernel
theorem dX9_pass_52 : decode cX9_pass 52 = .ok (.aload_n 0, 1) := by decide +kernel
theorem dX9_pass_53 : decode cX9_pass 53 = .ok (.getfield 12, 3) := by decide +kernel
theorem dX9_pass_56 : decode cX9_pass 56 = .ok (.iload_n 1, 1) := by decide +kernel
theorem dX9_pass_57 : decode cX9_pass 57 = .ok (.invokevirtual 124, 3) := by decide +kernel
theorem dX9_pass_60 : decode cX9_pass 60 = .ok (.aload_n 0, 1) := by decide +kernel
theorem dX9_pass_61 : decode cX9_pass 61 = .ok (.getfield 12, 3) := by decide +kernel
theorem dX9_pass_64 : decode cX9_pass 64 = .ok (.invokevirtual 120, 3) := by decide +kernel
theorem dX9_pass_67 : decode cX9_pass 67 = .ok (.iload_n 2, 1) := by decide +kernel
theorem dX9_pass_68 : decode cX9_pass 68 = .ok (.isub, 1) := by decide +kernel
theorem dX9_pass_69 : decode cX9_pass 69 = .ok (.ireturn, 1) := by decide +kernel
theorem dX9_needFigure_0 : decode cX9_needFigure 0 = .ok (.iload_n 0, 1) := by decide +kernel
theorem dX9_needFigure_1 : decode cX9_needFigure 1 = .ok (.ifCond .lt 8, 3) := by decide +kernel
theorem dX9_needFigure_4 : decode cX9_needFigure 4 = .ok (.iload_n 0, 1) := by decide +kernel
theorem dX9_needFigure_5 : decode cX9_needFigure 5 = .ok (.iload_n 1, 1) := by decide +kernel
theorem dX9_needFigure_6 : decode cX9_needFigure 6 = .ok (.if_icmp .lt 14, 3) := by decide +kernel
theorem dX9_needFigure_9 : decode cX9_needFigure 9 = .ok (.new 51, 3) := by decide +kernel
theorem dX9_needFigure_12 : decode cX9_needFigure 12 = .ok (.dup, 1) := by decide +kernel
theorem dX9_needFigure_13 : decode cX9_needFigure 13 = .ok (.ldc_w 271, 3) := by decide +kernel
theorem dX9_needFigure_16 : decode cX9_needFigure 16 = .ok (.invokespecial 55, 3) := by decide +kernel
theorem dX9_needFigure_19 : decode cX9_needFigure 19 = .ok (.athrow, 1) := by decide +kernel
theorem dX9_needFigure_20 : decode cX9_needFigure 20 = .ok (.return_, 1) := by decide +kernel
theorem dX9_cell_0 : decode cX9_cell 0 = .ok (.iload_n 1, 1) := by decide +kernel
theorem dX9_cell_1 : decode cX9_cell 1 = .ok (.invokestatic 47, 3) := by decide +kernel
theorem dX9_cell_4 : decode cX9_cell 4 = .ok (.iload_n 2, 1) := by decide +kernel
theorem dX9_cell_5 : decode cX9_cell 5 = .ok (.iconst 4, 1) := by decide +kernel
theorem dX9_cell_6 : decode cX9_cell 6 = .ok (.invokestatic 168, 3) := by decide +kernel
theorem dX9_cell_9 : decode cX9_cell 9 = .ok (.aload_n 0, 1) := by decide +kernel
theorem dX9_cell_10 : decode cX9_cell 10 = .ok (.getfield 12, 3) := by decide +kernel
theorem dX9_cell_13 : decode cX9_cell 13 = .ok (.iload_n 1, 1) := by decide +kernel
theorem dX9_cell_14 : decode cX9_cell 14 = .ok (.iload_n 2, 1) := by decide +kernel
theorem dX9_cell_15 : decode cX9_cell 15 = .ok (.invokevirtual 172, 3) := by decide +kernel
theorem dX9_cell_18 : decode cX9_cell 18 = .ok (.ireturn, 1) := by decide +kernel
theorem dX9_troop_0 : decode cX9_troop 0 = .ok (.aload_n 0, 1) := by decide +kernel
theorem dX9_troop_1 : decode cX9_troop 1 = .ok (.iload_n 1, 1) := by decide +kernel
theorem dX9_troop_2 : decode cX9_troop 2 = .ok (.invokevirtual 99, 3) := by decide +kernel
theorem dX9_troop_5 : decode cX9_troop 5 = .ok (.iload_n 2, 1) := by decide +kernel
theorem dX9_troop_6 : decode cX9_troop 6 = .ok (.bipush 9, 2) := by decide +kernel
theorem dX9_troop_8 : decode cX9_troop 8 = .ok (.invokestatic 168, 3) := by decide +kernel
theorem dX9_troop_11 : decode cX9_troop 11 = .ok (.aload_n 0, 1) := by decide +kernel
theorem dX9_troop_12 : decode cX9_troop 12 = .ok (.getfield 12, 3) := by decide +kernel
theorem dX9_troop_15 : decode cX9_troop 15 = .ok (.iload_n 1, 1) := by decide +kernel
theorem dX9_troop_16 : decode cX9_troop 16 = .ok (.iload_n 2, 1) := by decide +kernel
theorem dX9_troop_17 : decode cX9_troop 17 = .ok (.invokevirtual 175, 3) := by decide +kernel
theorem dX9_troop_20 : decode cX9_troop 20 = .ok (.ireturn, 1) := by decide +kernel
theorem dX9_underWay_0 : decode cX9_underWay 0 = .ok (.iload_n 1, 1) := by decide +kernel
theorem dX9_underWay_1 : decode cX9_underWay 1 = .ok (.ifCond .lt 14, 3) := by decide +kernel
theorem dX9_underWay_4 : decode cX9_underWay 4 = .ok (.iload_n 1, 1) := by decide +kernel
theorem dX9_underWay_5 : decode cX9_underWay 5 = .ok (.aload_n 0, 1) := by decide +kernel
theorem dX9_underWay_6 : decode cX9_underWay 6 = .ok (.getfield 12, 3) := by decide +kernel
theorem dX9_underWay_9 : decode cX9_underWay 9 = .ok (.getfield 178, 3) := by decide +kernel
theorem dX9_underWay_12 : decode cX9_underWay 12 = .ok (.if_icmp .lt 13, 3) := by decide +kernel
theorem dX9_underWay_15 : decode cX9_underWay 15 = .ok (.new 181, 3) := by decide +kernel
theorem dX9_underWay_18 : decode cX9_underWay 18 = .ok (.dup, 1) := by decide +kernel
theorem dX9_underWay_19 : decode cX9_underWay 19 = .ok (.ldc 183, 2) := by decide +kernel
theorem dX9_underWay_21 : decode cX9_underWay 21 = .ok (.invokespecial 185, 3) := by decide +kernel
theorem dX9_underWay_24 : decode cX9_underWay 24 = .ok (.athrow, 1) := by decide +kernel
theorem dX9_underWay_25 : decode cX9_underWay 25 = .ok (.iload_n 2, 1) := by decide +kernel
theorem dX9_underWay_26 : decode cX9_underWay 26 = .ok (.iconst 4, 1) := by decide +kernel
theorem dX9_underWay_27 : decode cX9_underWay 27 = .ok (.invokestatic 168, 3) := by decide +kernel
theorem dX9_underWay_30 : decode cX9_underWay 30 = .ok (.aload_n 0, 1) := by decide +kernel
theorem dX9_underWay_31 : decode cX9_underWay 31 = .ok (.getfield 12, 3) := by decide +kernel
theorem dX9_underWay_34 : decode cX9_underWay 34 = .ok (.getfield 186, 3) := by decide +kernel
theorem dX9_underWay_37 : decode cX9_underWay 37 = .ok (.iload_n 1, 1) := by decide +kernel
theorem dX9_underWay_38 : decode cX9_underWay 38 = .ok (.aaload, 1) := by decide +kernel
theorem dX9_underWay_39 : decode cX9_underWay 39 = .ok (.iload_n 2, 1) := by decide +kernel
theorem dX9_underWay_40 : decode cX9_underWay 40 = .ok (.invokevirtual 190, 3) := by decide +kernel
theorem dX9_underWay_43 : decode cX9_underWay 43 = .ok (.ireturn, 1) := by decide +kernel
theorem dX9_countNow_0 : decode cX9_countNow 0 = .ok (.iload_n 1, 1) := by decide +kernel
theorem dX9_countNow_1 : decode cX9_countNow 1 = .ok (.bipush 13, 2) := by decide +kernel
theorem dX9_countNow_3 : decode cX9_countNow 3 = .ok (.if_icmp .ne 13, 3) := by decide +kernel
theorem dX9_countNow_6 : decode cX9_countNow 6 = .ok (.aload_n 0, 1) := by decide +kernel
theorem dX9_countNow_7 : decode cX9_countNow 7 = .ok (.getfield 22, 3) := by decide +kernel
theorem dX9_countNow_10 : decode cX9_countNow 10 = .ok (.getfield 160, 3) := by decide +kernel
theorem dX9_countNow_13 : decode cX9_countNow 13 = .ok (.goto 11, 3) := by decide +kernel
theorem dX9_countNow_16 : decode cX9_countNow 16 = .ok (.aload_n 0, 1) := by decide +kernel
theorem dX9_countNow_17 : decode cX9_countNow 17 = .ok (.getfield 12, 3) := by decide +kernel
theorem dX9_countNow_20 : decode cX9_countNow 20 = .ok (.iload_n 1, 1) := by decide +kernel
theorem dX9_countNow_21 : decode cX9_countNow 21 = .ok (.invokevirtual 214, 3) := by decide +kernel
theorem dX9_countNow_24 : decode cX9_countNow 24 = .ok (.ireturn, 1) := by decide +kernel
theorem dX9_count_0 : decode cX9_count 0 = .ok (.iload_n 1, 1) := by decide +kernel
theorem dX9_count_1 : decode cX9_count 1 = .ok (.bipush 14, 2) := by decide +kernel
theorem dX9_count_3 : decode cX9_count 3 = .ok (.invokestatic 168, 3) := by decide +kernel
theorem dX9_count_6 : decode cX9_count 6 = .ok (.aload_n 0, 1) := by decide +kernel
theorem dX9_count_7 : decode cX9_count 7 = .ok (.iload_n 1, 1) := by decide +kernel
theorem dX9_count_8 : decode cX9_count 8 = .ok (.invokevirtual 195, 3) := by decide +kernel
theorem dX9_count_11 : decode cX9_count 11 = .ok (.ireturn, 1) := by decide +kernel
theorem dX9_sees_0 : decode cX9_sees 0 = .ok (.iload_n 1, 1) := by decide +kernel
theorem dX9_sees_1 : decode cX9_sees 1 = .ok (.invokestatic 47, 3) := by decide +kernel
theorem dX9_sees_4 : decode cX9_sees 4 = .ok (.iload_n 2, 1) := by decide +kernel
theorem dX9_sees_5 : decode cX9_sees 5 = .ok (.invokestatic 47, 3) := by decide +kernel
theorem dX9_sees_8 : decode cX9_sees 8 = .ok (.aload_n 0, 1) := by decide +kernel
theorem dX9_sees_9 : decode cX9_sees 9 = .ok (.getfield 12, 3) := by decide +kernel
theorem dX9_sees_12 : decode cX9_sees 12 = .ok (.getfield 64, 3) := by decide +kernel
theorem dX9_sees_15 : decode cX9_sees 15 = .ok (.iload_n 1, 1) := by decide +kernel
theorem dX9_sees_16 : decode cX9_sees 16 = .ok (.iload_n 2, 1) := by decide +kernel
theorem dX9_sees_17 : decode cX9_sees 17 = .ok (.invokevirtual 198, 3) := by decide +kernel
theorem dX9_sees_20 : decode cX9_sees 20 = .ok (.ireturn, 1) := by decide +kernel
theorem dX9_distance_0 : decode cX9_distance 0 = .ok (.iload_n 1, 1) := by decide +kernel
theorem dX9_distance_1 : decode cX9_distance 1 = .ok (.invokestatic 47, 3) := by decide +kernel
theorem dX9_distance_4 : decode cX9_distance 4 = .ok (.iload_n 2, 1) := by decide +kernel
theorem dX9_distance_5 : decode cX9_distance 5 = .ok (.invokestatic 47, 3) := by decide +kernel
theorem dX9_distance_8 : decode cX9_distance 8 = .ok (.aload_n 0, 1) := by decide +kernel
theorem dX9_distance_9 : decode cX9_distance 9 = .ok (.getfield 36, 3) := by decide +kernel
theorem dX9_distance_12 : decode cX9_distance 12 = .ok (.aload_n 0, 1) := by decide +kernel
theorem dX9_distance_13 : decode cX9_distance 13 = .ok (.getfield 12, 3) := by decide +kernel
theorem dX9_distance_16 : decode cX9_distance 16 = .ok (.getfield 64, 3) := by decide +kernel
theorem dX9_distance_19 : decode cX9_distance 19 = .ok (.iload_n 1, 1) := by decide +kernel
theorem dX9_distance_20 : decode cX9_distance 20 = .ok (.iload_n 2, 1) := by decide +kernel
theorem dX9_distance_21 : decode cX9_distance 21 = .ok (.invokevirtual 202, 3) := by decide +kernel
theorem dX9_distance_24 : decode cX9_distance 24 = .ok (.ireturn, 1) := by decide +kernel
theorem dX9_why_0 : decode cX9_why 0 = .ok (.aload_n 0, 1) := by decide +kernel
theorem dX9_why_1 : decode cX9_why 1 = .ok (.iload_n 1, 1) := by decide +kernel
theorem dX9_why_2 : decode cX9_why 2 = .ok (.invokevirtual 99, 3) := by decide +kernel
theorem dX9_why_5 : decode cX9_why 5 = .ok (.aload_n 0, 1) := by decide +kernel
theorem dX9_why_6 : decode cX9_why 6 = .ok (.getfield 36, 3) := by decide +kernel
theorem dX9_why_9 : decode cX9_why 9 = .ok (.aload_n 0, 1) := by decide +kernel
theorem dX9_why_10 : decode cX9_why 10 = .ok (.getfield 12, 3) := by decide +kernel
theorem dX9_why_13 : decode cX9_why 13 = .ok (.iload_n 1, 1) := by decide +kernel
theorem dX9_why_14 : decode cX9_why 14 = .ok (.invokevirtual 102, 3) := by decide +kernel
theorem dX9_why_17 : decode cX9_why 17 = .ok (.ireturn, 1) := by decide +kernel
theorem dX9_ifPassed_0 : decode cX9_ifPassed 0 = .ok (.iload_n 1, 1) := by decide +kernel
theorem dX9_ifPassed_1 : decode cX9_ifPassed 1 = .ok (.invokestatic 112, 3) := by decide +kernel
theorem dX9_ifPassed_4 : decode cX9_ifPassed 4 = .ok (.iload_n 2, 1) := by decide +kernel
theorem dX9_ifPassed_5 : decode cX9_ifPassed 5 = .ok (.iconst 2, 1) := by decide +kernel
theorem dX9_ifPassed_6 : decode cX9_ifPassed 6 = .ok (.if_icmp .eq 30, 3) := by decide +kernel
theorem dX9_ifPassed_9 : decode cX9_ifPassed 9 = .ok (.iload_n 2, 1) := by decide +kernel
theorem dX9_ifPassed_10 : decode cX9_ifPassed 10 = .ok (.iconst 3, 1) := by decide +kernel
theorem dX9_ifPassed_11 : decode cX9_ifPassed 11 = .ok (.if_icmp .eq 25, 3) := by decide +kernel
theorem dX9_ifPassed_14 : decode cX9_ifPassed 14 = .ok (.iload_n 2, 1) := by decide +kernel
theorem dX9_ifPassed_15 : decode cX9_ifPassed 15 = .ok (.bipush 6, 2) := by decide +kernel
theorem dX9_ifPassed_17 : decode cX9_ifPassed 17 = .ok (.if_icmp .lt 9, 3) := by decide +kernel
theorem dX9_ifPassed_20 : decode cX9_ifPassed 20 = .ok (.iload_n 2, 1) := by decide +kernel
theorem dX9_ifPassed_21 : decode cX9_ifPassed 21 = .ok (.bipush 10, 2) := by decide +kernel
theorem dX9_ifPassed_23 : decode cX9_ifPassed 23 = .ok (.if_icmp .le 13, 3) := by decide +kernel
theorem dX9_ifPassed_26 : decode cX9_ifPassed 26 = .ok (.new 51, 3) := by decide +kernel
theorem dX9_ifPassed_29 : decode cX9_ifPassed 29 = .ok (.dup, 1) := by decide +kernel
theorem dX9_ifPassed_30 : decode cX9_ifPassed 30 = .ok (.ldc 209, 2) := by decide +kernel
theorem dX9_ifPassed_32 : decode cX9_ifPassed 32 = .ok (.invokespecial 55, 3) := by decide +kernel
theorem dX9_ifPassed_35 : decode cX9_ifPassed 35 = .ok (.athrow, 1) := by decide +kernel
theorem dX9_ifPassed_36 : decode cX9_ifPassed 36 = .ok (.aload_n 0, 1) := by decide +kernel
theorem dX9_ifPassed_37 : decode cX9_ifPassed 37 = .ok (.getfield 16, 3) := by decide +kernel
theorem dX9_ifPassed_40 : decode cX9_ifPassed 40 = .ok (.aload_n 0, 1) := by decide +kernel
theorem dX9_ifPassed_41 : decode cX9_ifPassed 41 = .ok (.getfield 12, 3) := by decide +kernel
theorem dX9_ifPassed_44 : decode cX9_ifPassed 44 = .ok (.invokevirtual 211, 3) := by decide +kernel
theorem dX9_ifPassed_47 : decode cX9_ifPassed 47 = .ok (.aload_n 0, 1) := by decide +kernel
theorem dX9_ifPassed_48 : decode cX9_ifPassed 48 = .ok (.getfield 43, 3) := by decide +kernel
theorem dX9_ifPassed_51 : decode cX9_ifPassed 51 = .ok (.aload_n 0, 1) := by decide +kernel
theorem dX9_ifPassed_52 : decode cX9_ifPassed 52 = .ok (.getfield 16, 3) := by decide +kernel
theorem dX9_ifPassed_55 : decode cX9_ifPassed 55 = .ok (.iload_n 1, 1) := by decide +kernel
theorem dX9_ifPassed_56 : decode cX9_ifPassed 56 = .ok (.invokevirtual 124, 3) := by decide +kernel
theorem dX9_ifPassed_59 : decode cX9_ifPassed 59 = .ok (.aload_n 0, 1) := by decide +kernel
theorem dX9_ifPassed_60 : decode cX9_ifPassed 60 = .ok (.getfield 16, 3) := by decide +kernel
theorem dX9_ifPassed_63 : decode cX9_ifPassed 63 = .ok (.iload_n 2, 1) := by decide +kernel
theorem dX9_ifPassed_64 : decode cX9_ifPassed 64 = .ok (.invokevirtual 214, 3) := by decide +kernel
theorem dX9_ifPassed_67 : decode cX9_ifPassed 67 = .ok (.ireturn, 1) := by decide +kernel
theorem dX9_arrivesIn_0 : decode cX9_arrivesIn 0 = .ok (.aload_n 0, 1) := by decide +kernel
theorem dX9_arrivesIn_1 : decode cX9_arrivesIn 1 = .ok (.iload_n 1, 1) := by decide +kernel
theorem dX9_arrivesIn_2 : decode cX9_arrivesIn 2 = .ok (.invokevirtual 99, 3) := by decide +kernel
theorem dX9_arrivesIn_5 : decode cX9_arrivesIn 5 = .ok (.aload_n 0, 1) := by decide +kernel
theorem dX9_arrivesIn_6 : decode cX9_arrivesIn 6 = .ok (.getfield 16, 3) := by decide +kernel
theorem dX9_arrivesIn_9 : decode cX9_arrivesIn 9 = .ok (.aload_n 0, 1) := by decide +kernel
theorem dX9_arrivesIn_10 : decode cX9_arrivesIn 10 = .ok (.getfield 12, 3) := by decide +kernel
theorem dX9_arrivesIn_13 : decode cX9_arrivesIn 13 = .ok (.invokevirtual 211, 3) := by decide +kernel
theorem dX9_arrivesIn_16 : decode cX9_arrivesIn 16 = .ok (.aload_n 0, 1) := by decide +kernel
theorem dX9_arrivesIn_17 : decode cX9_arrivesIn 17 = .ok (.getfield 16, 3) := by decide +kernel
theorem dX9_arrivesIn_20 : decode cX9_arrivesIn 20 = .ok (.getfield 215, 3) := by decide +kernel
theorem dX9_arrivesIn_23 : decode cX9_arrivesIn 23 = .ok (.iload_n 1, 1) := by decide +kernel
theorem dX9_arrivesIn_24 : decode cX9_arrivesIn 24 = .ok (.aaload, 1) := by decide +kernel
theorem dX9_arrivesIn_25 : decode cX9_arrivesIn 25 = .ok (.astore_n 2, 1) := by decide +kernel
theorem dX9_arrivesIn_26 : decode cX9_arrivesIn 26 = .ok (.iconst 0, 1) := by decide +kernel
theorem dX9_arrivesIn_27 : decode cX9_arrivesIn 27 = .ok (.istore_n 3, 1) := by decide +kernel
theorem dX9_arrivesIn_28 : decode cX9_arrivesIn 28 = .ok (.iload_n 3, 1) := by decide +kernel
theorem dX9_arrivesIn_29 : decode cX9_arrivesIn 29 = .ok (.bipush 60, 2) := by decide +kernel
theorem dX9_arrivesIn_31 : decode cX9_arrivesIn 31 = .ok (.if_icmp .gt 44, 3) := by decide +kernel
theorem dX9_arrivesIn_34 : decode cX9_arrivesIn 34 = .ok (.aload_n 2, 1) := by decide +kernel
theorem dX9_arrivesIn_35 : decode cX9_arrivesIn 35 = .ok (.getfield 218, 3) := by decide +kernel
theorem dX9_arrivesIn_38 : decode cX9_arrivesIn 38 = .ok (.iconst 2, 1) := by decide +kernel
theorem dX9_arrivesIn_39 : decode cX9_arrivesIn 39 = .ok (.if_icmp .ne 5, 3) := by decide +kernel
theorem dX9_arrivesIn_42 : decode cX9_arrivesIn 42 = .ok (.iconst (-1), 1) := by decide +kernel
theorem dX9_arrivesIn_43 : decode cX9_arrivesIn 43 = .ok (.ireturn, 1) := by decide +kernel
theorem dX9_arrivesIn_44 : decode cX9_arrivesIn 44 = .ok (.aload_n 2, 1) := by decide +kernel
theorem dX9_arrivesIn_45 : decode cX9_arrivesIn 45 = .ok (.getfield 223, 3) := by decide +kernel
theorem dX9_arrivesIn_48 : decode cX9_arrivesIn 48 = .ok (.aload_n 2, 1) := by decide +kernel
theorem dX9_arrivesIn_49 : decode cX9_arrivesIn 49 = .ok (.getfield 226, 3) := by decide +kernel
theorem dX9_arrivesIn_52 : decode cX9_arrivesIn 52 = .ok (.if_icmp .ne 5, 3) := by decide +kernel
theorem dX9_arrivesIn_55 : decode cX9_arrivesIn 55 = .ok (.iload_n 3, 1) := by decide +kernel
theorem dX9_arrivesIn_56 : decode cX9_arrivesIn 56 = .ok (.ireturn, 1) := by decide +kernel
theorem dX9_arrivesIn_57 : decode cX9_arrivesIn 57 = .ok (.aload_n 0, 1) := by decide +kernel
theorem dX9_arrivesIn_58 : decode cX9_arrivesIn 58 = .ok (.getfield 43, 3) := by decide +kernel
theorem dX9_arrivesIn_61 : decode cX9_arrivesIn 61 = .ok (.aload_n 0, 1) := by decide +kernel
theorem dX9_arrivesIn_62 : decode cX9_arrivesIn 62 = .ok (.getfield 16, 3) := by decide +kernel
theorem dX9_arrivesIn_65 : decode cX9_arrivesIn 65 = .ok (.iconst 1, 1) := by decide +kernel
theorem dX9_arrivesIn_66 : decode cX9_arrivesIn 66 = .ok (.invokevirtual 124, 3) := by decide +kernel
theorem dX9_arrivesIn_69 : decode cX9_arrivesIn 69 = .ok (.iinc 3 1, 3) := by decide +kernel
theorem dX9_arrivesIn_72 : decode cX9_arrivesIn 72 = .ok (.goto (-44), 3) := by decide +kernel
theorem dX9_arrivesIn_75 : decode cX9_arrivesIn 75 = .ok (.iconst (-1), 1) := by decide +kernel
theorem dX9_arrivesIn_76 : decode cX9_arrivesIn 76 = .ok (.ireturn, 1) := by decide +kernel
theorem dX9_strengthLeft_0 : decode cX9_strengthLeft 0 = .ok (.aload_n 0, 1) := by decide +kernel
theorem dX9_strengthLeft_1 : decode cX9_strengthLeft 1 = .ok (.getfield 12, 3) := by decide +kernel
theorem dX9_strengthLeft_4 : decode cX9_strengthLeft 4 = .ok (.invokevirtual 229, 3) := by decide +kernel
theorem dX9_strengthLeft_7 : decode cX9_strengthLeft 7 = .ok (.dreturn, 1) := by decide +kernel
theorem dL_cell_0 : decode cL_cell 0 = .ok (.iload_n 1, 1) := by decide +kernel
theorem dL_cell_1 : decode cL_cell 1 = .ok (.aload_n 0, 1) := by decide +kernel
theorem dL_cell_2 : decode cL_cell 2 = .ok (.arraylength, 1) := by decide +kernel
theorem dL_cell_3 : decode cL_cell 3 = .ok (.if_icmp .ge 9, 3) := by decide +kernel
theorem dL_cell_6 : decode cL_cell 6 = .ok (.aload_n 0, 1) := by decide +kernel
theorem dL_cell_7 : decode cL_cell 7 = .ok (.iload_n 1, 1) := by decide +kernel
theorem dL_cell_8 : decode cL_cell 8 = .ok (.iaload, 1) := by decide +kernel
theorem dL_cell_9 : decode cL_cell 9 = .ok (.goto 9, 3) := by decide +kernel
theorem dL_cell_12 : decode cL_cell 12 = .ok (.ldc 7, 2) := by decide +kernel
theorem dL_cell_14 : decode cL_cell 14 = .ok (.iload_n 1, 1) := by decide +kernel
theorem dL_cell_15 : decode cL_cell 15 = .ok (.iconst 1, 1) := by decide +kernel
theorem dL_cell_16 : decode cL_cell 16 = .ok (.iadd, 1) := by decide +kernel
theorem dL_cell_17 : decode cL_cell 17 = .ok (.imul, 1) := by decide +kernel
theorem dL_cell_18 : decode cL_cell 18 = .ok (.ireturn, 1) := by decide +kernel
theorem dL_at_0 : decode cL_at 0 = .ok (.iload_n 0, 1) := by decide +kernel
theorem dL_at_1 : decode cL_at 1 = .ok (.iconst 1, 1) := by decide +kernel
theorem dL_at_2 : decode cL_at 2 = .ok (.iushr, 1) := by decide +kernel
theorem dL_at_3 : decode cL_at 3 = .ok (.iload_n 1, 1) := by decide +kernel
theorem dL_at_4 : decode cL_at 4 = .ok (.irem, 1) := by decide +kernel
theorem dL_at_5 : decode cL_at 5 = .ok (.ireturn, 1) := by decide +kernel
theorem dL_big_0 : decode cL_big 0 = .ok (.bipush 12, 2) := by decide +kernel
theorem dL_big_2 : decode cL_big 2 = .ok (.iload_n 0, 1) := by decide +kernel
theorem dL_big_3 : decode cL_big 3 = .ok (.bipush 8, 2) := by decide +kernel
theorem dL_big_5 : decode cL_big 5 = .ok (.idiv, 1) := by decide +kernel
theorem dL_big_6 : decode cL_big 6 = .ok (.imul, 1) := by decide +kernel
theorem dL_big_7 : decode cL_big 7 = .ok (.iload_n 0, 1) := by decide +kernel
theorem dL_big_8 : decode cL_big 8 = .ok (.bipush 8, 2) := by decide +kernel
theorem dL_big_10 : decode cL_big 10 = .ok (.irem, 1) := by decide +kernel
theorem dL_big_11 : decode cL_big 11 = .ok (.iadd, 1) := by decide +kernel
theorem dL_big_12 : decode cL_big 12 = .ok (.ireturn, 1) := by decide +kernel
theorem dL_abs_0 : decode cL_abs 0 = .ok (.iload_n 0, 1) := by decide +kernel
theorem dL_abs_1 : decode cL_abs 1 = .ok (.ifCond .ge 8, 3) := by decide +kernel
theorem dL_abs_4 : decode cL_abs 4 = .ok (.iload_n 0, 1) := by decide +kernel
theorem dL_abs_5 : decode cL_abs 5 = .ok (.ineg, 1) := by decide +kernel
theorem dL_abs_6 : decode cL_abs 6 = .ok (.goto 4, 3) := by decide +kernel
theorem dL_abs_9 : decode cL_abs 9 = .ok (.iload_n 0, 1) := by decide +kernel
theorem dL_abs_10 : decode cL_abs 10 = .ok (.ireturn, 1) := by decide +kernel
theorem dL_beside_0 : decode cL_beside 0 = .ok (.iload_n 1, 1) := by decide +kernel
end
section
theorem dL_beside_1 : decode cL_beside 1 = .ok (.ifCond .ne 18, 3) := by decide +kernel
theorem dL_beside_4 : decode cL_beside 4 = .ok (.iload_n 0, 1) := by decide +kernel
theorem dL_beside_5 : decode cL_beside 5 = .ok (.bipush 8, 2) := by decide +kernel
theorem dL_beside_7 : decode cL_beside 7 = .ok (.if_icmp .ge 7, 3) := by decide +kernel
theorem dL_beside_10 : decode cL_beside 10 = .ok (.iconst (-1), 1) := by decide +kernel
theorem dL_beside_11 : decode cL_beside 11 = .ok (.goto 7, 3) := by decide +kernel
theorem dL_beside_14 : decode cL_beside 14 = .ok (.iload_n 0, 1) := by decide +kernel
theorem dL_beside_15 : decode cL_beside 15 = .ok (.bipush 8, 2) := by decide +kernel
theorem dL_beside_17 : decode cL_beside 17 = .ok (.isub, 1) := by decide +kernel
theorem dL_beside_18 : decode cL_beside 18 = .ok (.ireturn, 1) := by decide +kernel
theorem dL_beside_19 : decode cL_beside 19 = .ok (.iload_n 1, 1) := by decide +kernel
theorem dL_beside_20 : decode cL_beside 20 = .ok (.iconst 1, 1) := by decide +kernel
theorem dL_beside_21 : decode cL_beside 21 = .ok (.if_icmp .ne 20, 3) := by decide +kernel
theorem dL_beside_24 : decode cL_beside 24 = .ok (.iload_n 0, 1) := by decide +kernel
theorem dL_beside_25 : decode cL_beside 25 = .ok (.bipush 8, 2) := by decide +kernel
theorem dL_beside_27 : decode cL_beside 27 = .ok (.irem, 1) := by decide +kernel
theorem dL_beside_28 : decode cL_beside 28 = .ok (.bipush 7, 2) := by decide +kernel
theorem dL_beside_30 : decode cL_beside 30 = .ok (.if_icmp .ne 7, 3) := by decide +kernel
theorem dL_beside_33 : decode cL_beside 33 = .ok (.iconst (-1), 1) := by decide +kernel
theorem dL_beside_34 : decode cL_beside 34 = .ok (.goto 6, 3) := by decide +kernel
theorem dL_beside_37 : decode cL_beside 37 = .ok (.iload_n 0, 1) := by decide +kernel
theorem dL_beside_38 : decode cL_beside 38 = .ok (.iconst 1, 1) := by decide +kernel
theorem dL_beside_39 : decode cL_beside 39 = .ok (.iadd, 1) := by decide +kernel
theorem dL_beside_40 : decode cL_beside 40 = .ok (.ireturn, 1) := by decide +kernel
theorem dL_beside_41 : decode cL_beside 41 = .ok (.iload_n 1, 1) := by decide +kernel
theorem dL_beside_42 : decode cL_beside 42 = .ok (.iconst 2, 1) := by decide +kernel
theorem dL_beside_43 : decode cL_beside 43 = .ok (.if_icmp .ne 18, 3) := by decide +kernel
theorem dL_beside_46 : decode cL_beside 46 = .ok (.iload_n 0, 1) := by decide +kernel
theorem dL_beside_47 : decode cL_beside 47 = .ok (.bipush 55, 2) := by decide +kernel
theorem dL_beside_49 : decode cL_beside 49 = .ok (.if_icmp .le 7, 3) := by decide +kernel
theorem dL_beside_52 : decode cL_beside 52 = .ok (.iconst (-1), 1) := by decide +kernel
theorem dL_beside_53 : decode cL_beside 53 = .ok (.goto 7, 3) := by decide +kernel
theorem dL_beside_56 : decode cL_beside 56 = .ok (.iload_n 0, 1) := by decide +kernel
theorem dL_beside_57 : decode cL_beside 57 = .ok (.bipush 8, 2) := by decide +kernel
theorem dL_beside_59 : decode cL_beside 59 = .ok (.iadd, 1) := by decide +kernel
theorem dL_beside_60 : decode cL_beside 60 = .ok (.ireturn, 1) := by decide +kernel
theorem dL_beside_61 : decode cL_beside 61 = .ok (.iload_n 0, 1) := by decide +kernel
theorem dL_beside_62 : decode cL_beside 62 = .ok (.bipush 8, 2) := by decide +kernel
theorem dL_beside_64 : decode cL_beside 64 = .ok (.irem, 1) := by decide +kernel
theorem dL_beside_65 : decode cL_beside 65 = .ok (.ifCond .ne 7, 3) := by decide +kernel
theorem dL_beside_68 : decode cL_beside 68 = .ok (.iconst (-1), 1) := by decide +kernel
theorem dL_beside_69 : decode cL_beside 69 = .ok (.goto 6, 3) := by decide +kernel
theorem dL_beside_72 : decode cL_beside 72 = .ok (.iload_n 0, 1) := by decide +kernel
theorem dL_beside_73 : decode cL_beside 73 = .ok (.iconst 1, 1) := by decide +kernel
theorem dL_beside_74 : decode cL_beside 74 = .ok (.isub, 1) := by decide +kernel
theorem dL_beside_75 : decode cL_beside 75 = .ok (.ireturn, 1) := by decide +kernel
theorem dL_step_0 : decode cL_step 0 = .ok (.iload_n 0, 1) := by decide +kernel
theorem dL_step_1 : decode cL_step 1 = .ok (.iload_n 1, 1) := by decide +kernel
theorem dL_step_2 : decode cL_step 2 = .ok (.invokestatic 8, 3) := by decide +kernel
theorem dL_step_5 : decode cL_step 5 = .ok (.istore_n 3, 1) := by decide +kernel
theorem dL_step_6 : decode cL_step 6 = .ok (.iload_n 3, 1) := by decide +kernel
theorem dL_step_7 : decode cL_step 7 = .ok (.ifCond .lt 21, 3) := by decide +kernel
theorem dL_step_10 : decode cL_step 10 = .ok (.aload_n 2, 1) := by decide +kernel
theorem dL_step_11 : decode cL_step 11 = .ok (.iload_n 3, 1) := by decide +kernel
theorem dL_step_12 : decode cL_step 12 = .ok (.iaload, 1) := by decide +kernel
theorem dL_step_13 : decode cL_step 13 = .ok (.aload_n 2, 1) := by decide +kernel
theorem dL_step_14 : decode cL_step 14 = .ok (.iload_n 0, 1) := by decide +kernel
theorem dL_step_15 : decode cL_step 15 = .ok (.iaload, 1) := by decide +kernel
theorem dL_step_16 : decode cL_step 16 = .ok (.isub, 1) := by decide +kernel
theorem dL_step_17 : decode cL_step 17 = .ok (.invokestatic 14, 3) := by decide +kernel
theorem dL_step_20 : decode cL_step 20 = .ok (.iconst 3, 1) := by decide +kernel
theorem dL_step_21 : decode cL_step 21 = .ok (.if_icmp .ge 7, 3) := by decide +kernel
theorem dL_step_24 : decode cL_step 24 = .ok (.iload_n 3, 1) := by decide +kernel
theorem dL_step_25 : decode cL_step 25 = .ok (.goto 4, 3) := by decide +kernel
theorem dL_step_28 : decode cL_step 28 = .ok (.iconst (-1), 1) := by decide +kernel
theorem dL_step_29 : decode cL_step 29 = .ok (.ireturn, 1) := by decide +kernel
theorem dL_who_0 : decode cL_who 0 = .ok (.iconst 0, 1) := by decide +kernel
theorem dL_who_1 : decode cL_who 1 = .ok (.istore_n 3, 1) := by decide +kernel
theorem dL_who_2 : decode cL_who 2 = .ok (.iload_n 3, 1) := by decide +kernel
theorem dL_who_3 : decode cL_who 3 = .ok (.aload_n 2, 1) := by decide +kernel
theorem dL_who_4 : decode cL_who 4 = .ok (.iconst 1, 1) := by decide +kernel
theorem dL_who_5 : decode cL_who 5 = .ok (.iaload, 1) := by decide +kernel
theorem dL_who_6 : decode cL_who 6 = .ok (.if_icmp .ge 35, 3) := by decide +kernel
theorem dL_who_9 : decode cL_who 9 = .ok (.aload_n 1, 1) := by decide +kernel
theorem dL_who_10 : decode cL_who 10 = .ok (.bipush 8, 2) := by decide +kernel
theorem dL_who_12 : decode cL_who 12 = .ok (.iload_n 3, 1) := by decide +kernel
theorem dL_who_13 : decode cL_who 13 = .ok (.imul, 1) := by decide +kernel
theorem dL_who_14 : decode cL_who 14 = .ok (.iconst 4, 1) := by decide +kernel
theorem dL_who_15 : decode cL_who 15 = .ok (.iadd, 1) := by decide +kernel
theorem dL_who_16 : decode cL_who 16 = .ok (.iaload, 1) := by decide +kernel
theorem dL_who_17 : decode cL_who 17 = .ok (.iconst 2, 1) := by decide +kernel
theorem dL_who_18 : decode cL_who 18 = .ok (.if_icmp .ge 17, 3) := by decide +kernel
theorem dL_who_21 : decode cL_who 21 = .ok (.aload_n 1, 1) := by decide +kernel
theorem dL_who_22 : decode cL_who 22 = .ok (.bipush 8, 2) := by decide +kernel
theorem dL_who_24 : decode cL_who 24 = .ok (.iload_n 3, 1) := by decide +kernel
theorem dL_who_25 : decode cL_who 25 = .ok (.imul, 1) := by decide +kernel
theorem dL_who_26 : decode cL_who 26 = .ok (.iconst 1, 1) := by decide +kernel
theorem dL_who_27 : decode cL_who 27 = .ok (.iadd, 1) := by decide +kernel
theorem dL_who_28 : decode cL_who 28 = .ok (.iaload, 1) := by decide +kernel
theorem dL_who_29 : decode cL_who 29 = .ok (.iload_n 0, 1) := by decide +kernel
theorem dL_who_30 : decode cL_who 30 = .ok (.if_icmp .ne 5, 3) := by decide +kernel
theorem dL_who_33 : decode cL_who 33 = .ok (.iload_n 3, 1) := by decide +kernel
theorem dL_who_34 : decode cL_who 34 = .ok (.ireturn, 1) := by decide +kernel
theorem dL_who_35 : decode cL_who 35 = .ok (.iinc 3 1, 3) := by decide +kernel
theorem dL_who_38 : decode cL_who 38 = .ok (.goto (-36), 3) := by decide +kernel
theorem dL_who_41 : decode cL_who 41 = .ok (.iconst (-1), 1) := by decide +kernel
theorem dL_who_42 : decode cL_who 42 = .ok (.ireturn, 1) := by decide +kernel
theorem dL_floor_0 : decode cL_floor 0 = .ok (.iload_n 0, 1) := by decide +kernel
theorem dL_floor_1 : decode cL_floor 1 = .ok (.iload_n 1, 1) := by decide +kernel
theorem dL_floor_2 : decode cL_floor 2 = .ok (.idiv, 1) := by decide +kernel
theorem dL_floor_3 : decode cL_floor 3 = .ok (.istore_n 2, 1) := by decide +kernel
theorem dL_floor_4 : decode cL_floor 4 = .ok (.iload_n 2, 1) := by decide +kernel
theorem dL_floor_5 : decode cL_floor 5 = .ok (.iload_n 1, 1) := by decide +kernel
theorem dL_floor_6 : decode cL_floor 6 = .ok (.imul, 1) := by decide +kernel
theorem dL_floor_7 : decode cL_floor 7 = .ok (.iload_n 0, 1) := by decide +kernel
theorem dL_floor_8 : decode cL_floor 8 = .ok (.if_icmp .le 9, 3) := by decide +kernel
theorem dL_floor_11 : decode cL_floor 11 = .ok (.iload_n 2, 1) := by decide +kernel
theorem dL_floor_12 : decode cL_floor 12 = .ok (.iconst 1, 1) := by decide +kernel
theorem dL_floor_13 : decode cL_floor 13 = .ok (.isub, 1) := by decide +kernel
theorem dL_floor_14 : decode cL_floor 14 = .ok (.goto 4, 3) := by decide +kernel
theorem dL_floor_17 : decode cL_floor 17 = .ok (.iload_n 2, 1) := by decide +kernel
theorem dL_floor_18 : decode cL_floor 18 = .ok (.ireturn, 1) := by decide +kernel
theorem dL_sees_0 : decode cL_sees 0 = .ok (.iload_n 0, 1) := by decide +kernel
theorem dL_sees_1 : decode cL_sees 1 = .ok (.iload_n 1, 1) := by decide +kernel
theorem dL_sees_2 : decode cL_sees 2 = .ok (.if_icmp .ge 7, 3) := by decide +kernel
theorem dL_sees_5 : decode cL_sees 5 = .ok (.iload_n 0, 1) := by decide +kernel
theorem dL_sees_6 : decode cL_sees 6 = .ok (.goto 4, 3) := by decide +kernel
theorem dL_sees_9 : decode cL_sees 9 = .ok (.iload_n 1, 1) := by decide +kernel
theorem dL_sees_10 : decode cL_sees 10 = .ok (.istore_n 3, 1) := by decide +kernel
theorem dL_sees_11 : decode cL_sees 11 = .ok (.iload_n 0, 1) := by decide +kernel
theorem dL_sees_12 : decode cL_sees 12 = .ok (.iload_n 1, 1) := by decide +kernel
theorem dL_sees_13 : decode cL_sees 13 = .ok (.iadd, 1) := by decide +kernel
theorem dL_sees_14 : decode cL_sees 14 = .ok (.iload_n 3, 1) := by decide +kernel
theorem dL_sees_15 : decode cL_sees 15 = .ok (.isub, 1) := by decide +kernel
theorem dL_sees_16 : decode cL_sees 16 = .ok (.istore 4, 2) := by decide +kernel
theorem dL_sees_18 : decode cL_sees 18 = .ok (.iload 4, 2) := by decide +kernel
theorem dL_sees_20 : decode cL_sees 20 = .ok (.bipush 8, 2) := by decide +kernel
theorem dL_sees_22 : decode cL_sees 22 = .ok (.irem, 1) := by decide +kernel
theorem dL_sees_23 : decode cL_sees 23 = .ok (.iload_n 3, 1) := by decide +kernel
theorem dL_sees_24 : decode cL_sees 24 = .ok (.bipush 8, 2) := by decide +kernel
theorem dL_sees_26 : decode cL_sees 26 = .ok (.irem, 1) := by decide +kernel
theorem dL_sees_27 : decode cL_sees 27 = .ok (.isub, 1) := by decide +kernel
theorem dL_sees_28 : decode cL_sees 28 = .ok (.istore 5, 2) := by decide +kernel
theorem dL_sees_30 : decode cL_sees 30 = .ok (.iload 4, 2) := by decide +kernel
theorem dL_sees_32 : decode cL_sees 32 = .ok (.bipush 8, 2) := by decide +kernel
theorem dL_sees_34 : decode cL_sees 34 = .ok (.idiv, 1) := by decide +kernel
theorem dL_sees_35 : decode cL_sees 35 = .ok (.iload_n 3, 1) := by decide +kernel
theorem dL_sees_36 : decode cL_sees 36 = .ok (.bipush 8, 2) := by decide +kernel
theorem dL_sees_38 : decode cL_sees 38 = .ok (.idiv, 1) := by decide +kernel
theorem dL_sees_39 : decode cL_sees 39 = .ok (.isub, 1) := by decide +kernel
theorem dL_sees_40 : decode cL_sees 40 = .ok (.istore 6, 2) := by decide +kernel
theorem dL_sees_42 : decode cL_sees 42 = .ok (.iload 5, 2) := by decide +kernel
theorem dL_sees_44 : decode cL_sees 44 = .ok (.invokestatic 14, 3) := by decide +kernel
theorem dL_sees_47 : decode cL_sees 47 = .ok (.iload 6, 2) := by decide +kernel
theorem dL_sees_49 : decode cL_sees 49 = .ok (.invokestatic 14, 3) := by decide +kernel
theorem dL_sees_52 : decode cL_sees 52 = .ok (.if_icmp .le 11, 3) := by decide +kernel
theorem dL_sees_55 : decode cL_sees 55 = .ok (.iload 5, 2) := by decide +kernel
theorem dL_sees_57 : decode cL_sees 57 = .ok (.invokestatic 14, 3) := by decide +kernel
theorem dL_sees_60 : decode cL_sees 60 = .ok (.goto 8, 3) := by decide +kernel
theorem dL_sees_63 : decode cL_sees 63 = .ok (.iload 6, 2) := by decide +kernel
theorem dL_sees_65 : decode cL_sees 65 = .ok (.invokestatic 14, 3) := by decide +kernel
theorem dL_sees_68 : decode cL_sees 68 = .ok (.istore 7, 2) := by decide +kernel
theorem dL_sees_70 : decode cL_sees 70 = .ok (.iconst 1, 1) := by decide +kernel
theorem dL_sees_71 : decode cL_sees 71 = .ok (.istore 8, 2) := by decide +kernel
theorem dL_sees_73 : decode cL_sees 73 = .ok (.iload 8, 2) := by decide +kernel
theorem dL_sees_75 : decode cL_sees 75 = .ok (.iload 7, 2) := by decide +kernel
theorem dL_sees_77 : decode cL_sees 77 = .ok (.if_icmp .ge 92, 3) := by decide +kernel
theorem dL_sees_80 : decode cL_sees 80 = .ok (.bipush 8, 2) := by decide +kernel
theorem dL_sees_82 : decode cL_sees 82 = .ok (.iload_n 3, 1) := by decide +kernel
theorem dL_sees_83 : decode cL_sees 83 = .ok (.bipush 8, 2) := by decide +kernel
theorem dL_sees_85 : decode cL_sees 85 = .ok (.idiv, 1) := by decide +kernel
theorem dL_sees_86 : decode cL_sees 86 = .ok (.iconst 2, 1) := by decide +kernel
theorem dL_sees_87 : decode cL_sees 87 = .ok (.iload 8, 2) := by decide +kernel
theorem dL_sees_89 : decode cL_sees 89 = .ok (.imul, 1) := by decide +kernel
theorem dL_sees_90 : decode cL_sees 90 = .ok (.iload 6, 2) := by decide +kernel
theorem dL_sees_92 : decode cL_sees 92 = .ok (.imul, 1) := by decide +kernel
theorem dL_sees_93 : decode cL_sees 93 = .ok (.iload 7, 2) := by decide +kernel
theorem dL_sees_95 : decode cL_sees 95 = .ok (.iadd, 1) := by decide +kernel
theorem dL_sees_96 : decode cL_sees 96 = .ok (.iconst 2, 1) := by decide +kernel
theorem dL_sees_97 : decode cL_sees 97 = .ok (.iload 7, 2) := by decide +kernel
theorem dL_sees_99 : decode cL_sees 99 = .ok (.imul, 1) := by decide +kernel
theorem dL_sees_100 : decode cL_sees 100 = .ok (.invokestatic 18, 3) := by decide +kernel
theorem dL_sees_103 : decode cL_sees 103 = .ok (.iadd, 1) := by decide +kernel
theorem dL_sees_104 : decode cL_sees 104 = .ok (.imul, 1) := by decide +kernel
theorem dL_sees_105 : decode cL_sees 105 = .ok (.iload_n 3, 1) := by decide +kernel
theorem dL_sees_106 : decode cL_sees 106 = .ok (.bipush 8, 2) := by decide +kernel
theorem dL_sees_108 : decode cL_sees 108 = .ok (.irem, 1) := by decide +kernel
theorem dL_sees_109 : decode cL_sees 109 = .ok (.iadd, 1) := by decide +kernel
theorem dL_sees_110 : decode cL_sees 110 = .ok (.iconst 2, 1) := by decide +kernel
theorem dL_sees_111 : decode cL_sees 111 = .ok (.iload 8, 2) := by decide +kernel
theorem dL_sees_113 : decode cL_sees 113 = .ok (.imul, 1) := by decide +kernel
theorem dL_sees_114 : decode cL_sees 114 = .ok (.iload 5, 2) := by decide +kernel
theorem dL_sees_116 : decode cL_sees 116 = .ok (.imul, 1) := by decide +kernel
theorem dL_sees_117 : decode cL_sees 117 = .ok (.iload 7, 2) := by decide +kernel
theorem dL_sees_119 : decode cL_sees 119 = .ok (.iadd, 1) := by decide +kernel
theorem dL_sees_120 : decode cL_sees 120 = .ok (.iconst 2, 1) := by decide +kernel
theorem dL_sees_121 : decode cL_sees 121 = .ok (.iload 7, 2) := by decide +kernel
theorem dL_sees_123 : decode cL_sees 123 = .ok (.imul, 1) := by decide +kernel
theorem dL_sees_124 : decode cL_sees 124 = .ok (.invokestatic 18, 3) := by decide +kernel
theorem dL_sees_127 : decode cL_sees 127 = .ok (.iadd, 1) := by decide +kernel
theorem dL_sees_128 : decode cL_sees 128 = .ok (.istore 9, 2) := by decide +kernel
theorem dL_sees_130 : decode cL_sees 130 = .ok (.aload_n 2, 1) := by decide +kernel
theorem dL_sees_131 : decode cL_sees 131 = .ok (.iload 9, 2) := by decide +kernel
theorem dL_sees_133 : decode cL_sees 133 = .ok (.iaload, 1) := by decide +kernel
theorem dL_sees_134 : decode cL_sees 134 = .ok (.iload 7, 2) := by decide +kernel
theorem dL_sees_136 : decode cL_sees 136 = .ok (.imul, 1) := by decide +kernel
theorem dL_sees_137 : decode cL_sees 137 = .ok (.aload_n 2, 1) := by decide +kernel
theorem dL_sees_138 : decode cL_sees 138 = .ok (.iload_n 3, 1) := by decide +kernel
theorem dL_sees_139 : decode cL_sees 139 = .ok (.iaload, 1) := by decide +kernel
theorem dL_sees_140 : decode cL_sees 140 = .ok (.iconst 1, 1) := by decide +kernel
theorem dL_sees_141 : decode cL_sees 141 = .ok (.iadd, 1) := by decide +kernel
theorem dL_sees_142 : decode cL_sees 142 = .ok (.iload 7, 2) := by decide +kernel
theorem dL_sees_144 : decode cL_sees 144 = .ok (.iload 8, 2) := by decide +kernel
theorem dL_sees_146 : decode cL_sees 146 = .ok (.isub, 1) := by decide +kernel
theorem dL_sees_147 : decode cL_sees 147 = .ok (.imul, 1) := by decide +kernel
theorem dL_sees_148 : decode cL_sees 148 = .ok (.aload_n 2, 1) := by decide +kernel
theorem dL_sees_149 : decode cL_sees 149 = .ok (.iload 4, 2) := by decide +kernel
theorem dL_sees_151 : decode cL_sees 151 = .ok (.iaload, 1) := by decide +kernel
theorem dL_sees_152 : decode cL_sees 152 = .ok (.iconst 1, 1) := by decide +kernel
theorem dL_sees_153 : decode cL_sees 153 = .ok (.iadd, 1) := by decide +kernel
theorem dL_sees_154 : decode cL_sees 154 = .ok (.iload 8, 2) := by decide +kernel
theorem dL_sees_156 : decode cL_sees 156 = .ok (.imul, 1) := by decide +kernel
theorem dL_sees_157 : decode cL_sees 157 = .ok (.iadd, 1) := by decide +kernel
theorem dL_sees_158 : decode cL_sees 158 = .ok (.if_icmp .le 5, 3) := by decide +kernel
theorem dL_sees_161 : decode cL_sees 161 = .ok (.iconst 0, 1) := by decide +kernel
theorem dL_sees_162 : decode cL_sees 162 = .ok (.ireturn, 1) := by decide +kernel
theorem dL_sees_163 : decode cL_sees 163 = .ok (.iinc 8 1, 3) := by decide +kernel
theorem dL_sees_166 : decode cL_sees 166 = .ok (.goto (-93), 3) := by decide +kernel
theorem dL_sees_169 : decode cL_sees 169 = .ok (.iconst 1, 1) := by decide +kernel
theorem dL_sees_170 : decode cL_sees 170 = .ok (.ireturn, 1) := by decide +kernel
theorem dL_spread_0 : decode cL_spread 0 = .ok (.iconst 0, 1) := by decide +kernel
theorem dL_spread_1 : decode cL_spread 1 = .ok (.istore 6, 2) := by decide +kernel
theorem dL_spread_3 : decode cL_spread 3 = .ok (.iload 6, 2) := by decide +kernel
theorem dL_spread_5 : decode cL_spread 5 = .ok (.bipush 64, 2) := by decide +kernel
theorem dL_spread_7 : decode cL_spread 7 = .ok (.if_icmp .ge 16, 3) := by decide +kernel
theorem dL_spread_10 : decode cL_spread 10 = .ok (.aload_n 2, 1) := by decide +kernel
theorem dL_spread_11 : decode cL_spread 11 = .ok (.iload 6, 2) := by decide +kernel
theorem dL_spread_13 : decode cL_spread 13 = .ok (.sipush 999, 3) := by decide +kernel
theorem dL_spread_16 : decode cL_spread 16 = .ok (.iastore, 1) := by decide +kernel
theorem dL_spread_17 : decode cL_spread 17 = .ok (.iinc 6 1, 3) := by decide +kernel
theorem dL_spread_20 : decode cL_spread 20 = .ok (.goto (-17), 3) := by decide +kernel
theorem dL_spread_23 : decode cL_spread 23 = .ok (.aload_n 2, 1) := by decide +kernel
theorem dL_spread_24 : decode cL_spread 24 = .ok (.iload_n 0, 1) := by decide +kernel
theorem dL_spread_25 : decode cL_spread 25 = .ok (.iconst 0, 1) := by decide +kernel
theorem dL_spread_26 : decode cL_spread 26 = .ok (.iastore, 1) := by decide +kernel
theorem dL_spread_27 : decode cL_spread 27 = .ok (.iconst 1, 1) := by decide +kernel
theorem dL_spread_28 : decode cL_spread 28 = .ok (.istore 6, 2) := by decide +kernel
theorem dL_spread_30 : decode cL_spread 30 = .ok (.iload 6, 2) := by decide +kernel
theorem dL_spread_32 : decode cL_spread 32 = .ok (.ifCond .eq 113, 3) := by decide +kernel
theorem dL_spread_35 : decode cL_spread 35 = .ok (.iconst 0, 1) := by decide +kernel
theorem dL_spread_36 : decode cL_spread 36 = .ok (.istore 6, 2) := by decide +kernel
theorem dL_spread_38 : decode cL_spread 38 = .ok (.iconst 0, 1) := by decide +kernel
theorem dL_spread_39 : decode cL_spread 39 = .ok (.istore 7, 2) := by decide +kernel
theorem dL_spread_41 : decode cL_spread 41 = .ok (.iload 7, 2) := by decide +kernel
theorem dL_spread_43 : decode cL_spread 43 = .ok (.bipush 64, 2) := by decide +kernel
theorem dL_spread_45 : decode cL_spread 45 = .ok (.if_icmp .ge 97, 3) := by decide +kernel
theorem dL_spread_48 : decode cL_spread 48 = .ok (.iconst 0, 1) := by decide +kernel
theorem dL_spread_49 : decode cL_spread 49 = .ok (.istore 8, 2) := by decide +kernel
theorem dL_spread_51 : decode cL_spread 51 = .ok (.iload 8, 2) := by decide +kernel
theorem dL_spread_53 : decode cL_spread 53 = .ok (.iconst 4, 1) := by decide +kernel
theorem dL_spread_54 : decode cL_spread 54 = .ok (.if_icmp .ge 82, 3) := by decide +kernel
theorem dL_spread_57 : decode cL_spread 57 = .ok (.iload 7, 2) := by decide +kernel
theorem dL_spread_59 : decode cL_spread 59 = .ok (.iload 8, 2) := by decide +kernel
theorem dL_spread_61 : decode cL_spread 61 = .ok (.aload_n 3, 1) := by decide +kernel
theorem dL_spread_62 : decode cL_spread 62 = .ok (.invokestatic 21, 3) := by decide +kernel
theorem dL_spread_65 : decode cL_spread 65 = .ok (.istore 9, 2) := by decide +kernel
theorem dL_spread_67 : decode cL_spread 67 = .ok (.iload 9, 2) := by decide +kernel
theorem dL_spread_69 : decode cL_spread 69 = .ok (.ifCond .lt 61, 3) := by decide +kernel
theorem dL_spread_72 : decode cL_spread 72 = .ok (.aload_n 2, 1) := by decide +kernel
theorem dL_spread_73 : decode cL_spread 73 = .ok (.iload 9, 2) := by decide +kernel
theorem dL_spread_75 : decode cL_spread 75 = .ok (.iaload, 1) := by decide +kernel
theorem dL_spread_76 : decode cL_spread 76 = .ok (.iconst 1, 1) := by decide +kernel
theorem dL_spread_77 : decode cL_spread 77 = .ok (.iadd, 1) := by decide +kernel
theorem dL_spread_78 : decode cL_spread 78 = .ok (.aload_n 2, 1) := by decide +kernel
theorem dL_spread_79 : decode cL_spread 79 = .ok (.iload 7, 2) := by decide +kernel
theorem dL_spread_81 : decode cL_spread 81 = .ok (.iaload, 1) := by decide +kernel
theorem dL_spread_82 : decode cL_spread 82 = .ok (.if_icmp .ge 48, 3) := by decide +kernel
theorem dL_spread_85 : decode cL_spread 85 = .ok (.iload_n 1, 1) := by decide +kernel
theorem dL_spread_86 : decode cL_spread 86 = .ok (.ifCond .lt 31, 3) := by decide +kernel
theorem dL_spread_89 : decode cL_spread 89 = .ok (.iload 7, 2) := by decide +kernel
theorem dL_spread_91 : decode cL_spread 91 = .ok (.aload 4, 2) := by decide +kernel
theorem dL_spread_93 : decode cL_spread 93 = .ok (.aload 5, 2) := by decide +kernel
theorem dL_spread_95 : decode cL_spread 95 = .ok (.invokestatic 25, 3) := by decide +kernel
theorem dL_spread_98 : decode cL_spread 98 = .ok (.ifCond .lt 19, 3) := by decide +kernel
theorem dL_spread_101 : decode cL_spread 101 = .ok (.iload 7, 2) := by decide +kernel
theorem dL_spread_103 : decode cL_spread 103 = .ok (.aload 4, 2) := by decide +kernel
theorem dL_spread_105 : decode cL_spread 105 = .ok (.aload 5, 2) := by decide +kernel
theorem dL_spread_107 : decode cL_spread 107 = .ok (.invokestatic 25, 3) := by decide +kernel
theorem dL_spread_110 : decode cL_spread 110 = .ok (.iload_n 1, 1) := by decide +kernel
theorem dL_spread_111 : decode cL_spread 111 = .ok (.if_icmp .eq 6, 3) := by decide +kernel
theorem dL_spread_114 : decode cL_spread 114 = .ok (.goto 16, 3) := by decide +kernel
theorem dL_spread_117 : decode cL_spread 117 = .ok (.aload_n 2, 1) := by decide +kernel
theorem dL_spread_118 : decode cL_spread 118 = .ok (.iload 7, 2) := by decide +kernel
theorem dL_spread_120 : decode cL_spread 120 = .ok (.aload_n 2, 1) := by decide +kernel
theorem dL_spread_121 : decode cL_spread 121 = .ok (.iload 9, 2) := by decide +kernel
theorem dL_spread_123 : decode cL_spread 123 = .ok (.iaload, 1) := by decide +kernel
theorem dL_spread_124 : decode cL_spread 124 = .ok (.iconst 1, 1) := by decide +kernel
theorem dL_spread_125 : decode cL_spread 125 = .ok (.iadd, 1) := by decide +kernel
theorem dL_spread_126 : decode cL_spread 126 = .ok (.iastore, 1) := by decide +kernel
theorem dL_spread_127 : decode cL_spread 127 = .ok (.iconst 1, 1) := by decide +kernel
theorem dL_spread_128 : decode cL_spread 128 = .ok (.istore 6, 2) := by decide +kernel
theorem dL_spread_130 : decode cL_spread 130 = .ok (.iinc 8 1, 3) := by decide +kernel
theorem dL_spread_133 : decode cL_spread 133 = .ok (.goto (-82), 3) := by decide +kernel
theorem dL_spread_136 : decode cL_spread 136 = .ok (.iinc 7 1, 3) := by decide +kernel
theorem dL_spread_139 : decode cL_spread 139 = .ok (.goto (-98), 3) := by decide +kernel
theorem dL_spread_142 : decode cL_spread 142 = .ok (.goto (-112), 3) := by decide +kernel
theorem dL_spread_145 : decode cL_spread 145 = .ok (.return_, 1) := by decide +kernel
theorem dL_time_0 : decode cL_time 0 = .ok (.aload_n 3, 1) := by decide +kernel
theorem dL_time_1 : decode cL_time 1 = .ok (.bipush 8, 2) := by decide +kernel
theorem dL_time_3 : decode cL_time 3 = .ok (.iload_n 1, 1) := by decide +kernel
theorem dL_time_4 : decode cL_time 4 = .ok (.imul, 1) := by decide +kernel
theorem dL_time_5 : decode cL_time 5 = .ok (.iconst 1, 1) := by decide +kernel
theorem dL_time_6 : decode cL_time 6 = .ok (.iadd, 1) := by decide +kernel
theorem dL_time_7 : decode cL_time 7 = .ok (.iaload, 1) := by decide +kernel
theorem dL_time_8 : decode cL_time 8 = .ok (.istore 5, 2) := by decide +kernel
theorem dL_time_10 : decode cL_time 10 = .ok (.iload_n 0, 1) := by decide +kernel
theorem dL_time_11 : decode cL_time 11 = .ok (.iload 5, 2) := by decide +kernel
theorem dL_time_13 : decode cL_time 13 = .ok (.aload_n 2, 1) := by decide +kernel
theorem dL_time_14 : decode cL_time 14 = .ok (.invokestatic 29, 3) := by decide +kernel
theorem dL_time_17 : decode cL_time 17 = .ok (.ifCond .eq 5, 3) := by decide +kernel
theorem dL_time_20 : decode cL_time 20 = .ok (.iconst 1, 1) := by decide +kernel
theorem dL_time_21 : decode cL_time 21 = .ok (.ireturn, 1) := by decide +kernel
theorem dL_time_22 : decode cL_time 22 = .ok (.bipush 64, 2) := by decide +kernel
theorem dL_time_24 : decode cL_time 24 = .ok (.newarray .int, 2) := by decide +kernel
theorem dL_time_26 : decode cL_time 26 = .ok (.astore 6, 2) := by decide +kernel
theorem dL_time_28 : decode cL_time 28 = .ok (.iload_n 0, 1) := by decide +kernel
theorem dL_time_29 : decode cL_time 29 = .ok (.iconst (-1), 1) := by decide +kernel
theorem dL_time_30 : decode cL_time 30 = .ok (.aload 6, 2) := by decide +kernel
theorem dL_time_32 : decode cL_time 32 = .ok (.aload_n 2, 1) := by decide +kernel
theorem dL_time_33 : decode cL_time 33 = .ok (.aload_n 3, 1) := by decide +kernel
theorem dL_time_34 : decode cL_time 34 = .ok (.aload 4, 2) := by decide +kernel
theorem dL_time_36 : decode cL_time 36 = .ok (.invokestatic 33, 3) := by decide +kernel
theorem dL_time_39 : decode cL_time 39 = .ok (.aload 6, 2) := by decide +kernel
theorem dL_time_41 : decode cL_time 41 = .ok (.iload 5, 2) := by decide +kernel
theorem dL_time_43 : decode cL_time 43 = .ok (.iaload, 1) := by decide +kernel
theorem dL_time_44 : decode cL_time 44 = .ok (.sipush 999, 3) := by decide +kernel
theorem dL_time_47 : decode cL_time 47 = .ok (.if_icmp .ne 7, 3) := by decide +kernel
theorem dL_time_50 : decode cL_time 50 = .ok (.iconst (-1), 1) := by decide +kernel
theorem dL_time_51 : decode cL_time 51 = .ok (.goto 12, 3) := by decide +kernel
theorem dL_time_54 : decode cL_time 54 = .ok (.aload 6, 2) := by decide +kernel
theorem dL_time_56 : decode cL_time 56 = .ok (.iload 5, 2) := by decide +kernel
theorem dL_time_58 : decode cL_time 58 = .ok (.iaload, 1) := by decide +kernel
theorem dL_time_59 : decode cL_time 59 = .ok (.iconst 2, 1) := by decide +kernel
theorem dL_time_60 : decode cL_time 60 = .ok (.iadd, 1) := by decide +kernel
theorem dL_time_61 : decode cL_time 61 = .ok (.iconst 3, 1) := by decide +kernel
theorem dL_time_62 : decode cL_time 62 = .ok (.idiv, 1) := by decide +kernel
theorem dL_time_63 : decode cL_time 63 = .ok (.ireturn, 1) := by decide +kernel
theorem dL_why_0 : decode cL_why 0 = .ok (.aload_n 2, 1) := by decide +kernel
theorem dL_why_1 : decode cL_why 1 = .ok (.bipush 8, 2) := by decide +kernel
theorem dL_why_3 : decode cL_why 3 = .ok (.iload_n 0, 1) := by decide +kernel
theorem dL_why_4 : decode cL_why 4 = .ok (.imul, 1) := by decide +kernel
theorem dL_why_5 : decode cL_why 5 = .ok (.iconst 4, 1) := by decide +kernel
theorem dL_why_6 : decode cL_why 6 = .ok (.iadd, 1) := by decide +kernel
theorem dL_why_7 : decode cL_why 7 = .ok (.iaload, 1) := by decide +kernel
theorem dL_why_8 : decode cL_why 8 = .ok (.iconst 2, 1) := by decide +kernel
theorem dL_why_9 : decode cL_why 9 = .ok (.if_icmp .ne 7, 3) := by decide +kernel
theorem dL_why_12 : decode cL_why 12 = .ok (.iconst 1, 1) := by decide +kernel
theorem dL_why_13 : decode cL_why 13 = .ok (.goto 29, 3) := by decide +kernel
theorem dL_why_16 : decode cL_why 16 = .ok (.aload_n 3, 1) := by decide +kernel
theorem dL_why_17 : decode cL_why 17 = .ok (.bipush 7, 2) := by decide +kernel
theorem dL_why_19 : decode cL_why 19 = .ok (.aload_n 2, 1) := by decide +kernel
theorem dL_why_20 : decode cL_why 20 = .ok (.bipush 8, 2) := by decide +kernel
theorem dL_why_22 : decode cL_why 22 = .ok (.iload_n 0, 1) := by decide +kernel
theorem dL_why_23 : decode cL_why 23 = .ok (.imul, 1) := by decide +kernel
theorem dL_why_24 : decode cL_why 24 = .ok (.iaload, 1) := by decide +kernel
theorem dL_why_25 : decode cL_why 25 = .ok (.iadd, 1) := by decide +kernel
theorem dL_why_26 : decode cL_why 26 = .ok (.iaload, 1) := by decide +kernel
theorem dL_why_27 : decode cL_why 27 = .ok (.iload_n 0, 1) := by decide +kernel
theorem dL_why_28 : decode cL_why 28 = .ok (.aload_n 1, 1) := by decide +kernel
theorem dL_why_29 : decode cL_why 29 = .ok (.aload_n 2, 1) := by decide +kernel
theorem dL_why_30 : decode cL_why 30 = .ok (.aload_n 3, 1) := by decide +kernel
theorem dL_why_31 : decode cL_why 31 = .ok (.invokestatic 37, 3) := by decide +kernel
theorem dL_why_34 : decode cL_why 34 = .ok (.ifCond .ge 7, 3) := by decide +kernel
theorem dL_why_37 : decode cL_why 37 = .ok (.iconst 2, 1) := by decide +kernel
theorem dL_why_38 : decode cL_why 38 = .ok (.goto 4, 3) := by decide +kernel
theorem dL_why_41 : decode cL_why 41 = .ok (.iconst 0, 1) := by decide +kernel
theorem dL_why_42 : decode cL_why 42 = .ok (.ireturn, 1) := by decide +kernel
theorem dL_turn_0 : decode cL_turn 0 = .ok (.aload_n 3, 1) := by decide +kernel
theorem dL_turn_1 : decode cL_turn 1 = .ok (.iconst 0, 1) := by decide +kernel
theorem dL_turn_2 : decode cL_turn 2 = .ok (.dup2, 1) := by decide +kernel
theorem dL_turn_3 : decode cL_turn 3 = .ok (.iaload, 1) := by decide +kernel
theorem dL_turn_4 : decode cL_turn 4 = .ok (.iconst 1, 1) := by decide +kernel
theorem dL_turn_5 : decode cL_turn 5 = .ok (.iadd, 1) := by decide +kernel
theorem dL_turn_6 : decode cL_turn 6 = .ok (.iastore, 1) := by decide +kernel
theorem dL_turn_7 : decode cL_turn 7 = .ok (.iconst 0, 1) := by decide +kernel
theorem dL_turn_8 : decode cL_turn 8 = .ok (.istore 4, 2) := by decide +kernel
theorem dL_turn_10 : decode cL_turn 10 = .ok (.iconst 0, 1) := by decide +kernel
theorem dL_turn_11 : decode cL_turn 11 = .ok (.istore 5, 2) := by decide +kernel
theorem dL_turn_13 : decode cL_turn 13 = .ok (.iload 5, 2) := by decide +kernel
theorem dL_turn_15 : decode cL_turn 15 = .ok (.aload_n 3, 1) := by decide +kernel
theorem dL_turn_16 : decode cL_turn 16 = .ok (.iconst 2, 1) := by decide +kernel
theorem dL_turn_17 : decode cL_turn 17 = .ok (.iaload, 1) := by decide +kernel
theorem dL_turn_18 : decode cL_turn 18 = .ok (.if_icmp .ge 119, 3) := by decide +kernel
theorem dL_turn_21 : decode cL_turn 21 = .ok (.aload_n 2, 1) := by decide +kernel
theorem dL_turn_22 : decode cL_turn 22 = .ok (.iconst 4, 1) := by decide +kernel
theorem dL_turn_23 : decode cL_turn 23 = .ok (.iload 5, 2) := by decide +kernel
theorem dL_turn_25 : decode cL_turn 25 = .ok (.imul, 1) := by decide +kernel
theorem dL_turn_26 : decode cL_turn 26 = .ok (.iconst 3, 1) := by decide +kernel
theorem dL_turn_27 : decode cL_turn 27 = .ok (.iadd, 1) := by decide +kernel
theorem dL_turn_28 : decode cL_turn 28 = .ok (.iaload, 1) := by decide +kernel
theorem dL_turn_29 : decode cL_turn 29 = .ok (.aload_n 3, 1) := by decide +kernel
theorem dL_turn_30 : decode cL_turn 30 = .ok (.iconst 0, 1) := by decide +kernel
theorem dL_turn_31 : decode cL_turn 31 = .ok (.iaload, 1) := by decide +kernel
theorem dL_turn_32 : decode cL_turn 32 = .ok (.if_icmp .eq 42, 3) := by decide +kernel
theorem dL_turn_35 : decode cL_turn 35 = .ok (.iconst 0, 1) := by decide +kernel
theorem dL_turn_36 : decode cL_turn 36 = .ok (.istore 6, 2) := by decide +kernel
theorem dL_turn_38 : decode cL_turn 38 = .ok (.iload 6, 2) := by decide +kernel
theorem dL_turn_40 : decode cL_turn 40 = .ok (.iconst 4, 1) := by decide +kernel
theorem dL_turn_41 : decode cL_turn 41 = .ok (.if_icmp .ge 27, 3) := by decide +kernel
theorem dL_turn_44 : decode cL_turn 44 = .ok (.aload_n 2, 1) := by decide +kernel
theorem dL_turn_45 : decode cL_turn 45 = .ok (.iconst 4, 1) := by decide +kernel
theorem dL_turn_46 : decode cL_turn 46 = .ok (.iload 4, 2) := by decide +kernel
theorem dL_turn_48 : decode cL_turn 48 = .ok (.imul, 1) := by decide +kernel
theorem dL_turn_49 : decode cL_turn 49 = .ok (.iload 6, 2) := by decide +kernel
theorem dL_turn_51 : decode cL_turn 51 = .ok (.iadd, 1) := by decide +kernel
theorem dL_turn_52 : decode cL_turn 52 = .ok (.aload_n 2, 1) := by decide +kernel
theorem dL_turn_53 : decode cL_turn 53 = .ok (.iconst 4, 1) := by decide +kernel
theorem dL_turn_54 : decode cL_turn 54 = .ok (.iload 5, 2) := by decide +kernel
theorem dL_turn_56 : decode cL_turn 56 = .ok (.imul, 1) := by decide +kernel
theorem dL_turn_57 : decode cL_turn 57 = .ok (.iload 6, 2) := by decide +kernel
theorem dL_turn_59 : decode cL_turn 59 = .ok (.iadd, 1) := by decide +kernel
theorem dL_turn_60 : decode cL_turn 60 = .ok (.iaload, 1) := by decide +kernel
theorem dL_turn_61 : decode cL_turn 61 = .ok (.iastore, 1) := by decide +kernel
theorem dL_turn_62 : decode cL_turn 62 = .ok (.iinc 6 1, 3) := by decide +kernel
theorem dL_turn_65 : decode cL_turn 65 = .ok (.goto (-27), 3) := by decide +kernel
theorem dL_turn_68 : decode cL_turn 68 = .ok (.iinc 4 1, 3) := by decide +kernel
theorem dL_turn_71 : decode cL_turn 71 = .ok (.goto 60, 3) := by decide +kernel
theorem dL_turn_74 : decode cL_turn 74 = .ok (.bipush 8, 2) := by decide +kernel
theorem dL_turn_76 : decode cL_turn 76 = .ok (.aload_n 2, 1) := by decide +kernel
theorem dL_turn_77 : decode cL_turn 77 = .ok (.iconst 4, 1) := by decide +kernel
theorem dL_turn_78 : decode cL_turn 78 = .ok (.iload 5, 2) := by decide +kernel
theorem dL_turn_80 : decode cL_turn 80 = .ok (.imul, 1) := by decide +kernel
theorem dL_turn_81 : decode cL_turn 81 = .ok (.iconst 1, 1) := by decide +kernel
theorem dL_turn_82 : decode cL_turn 82 = .ok (.iadd, 1) := by decide +kernel
theorem dL_turn_83 : decode cL_turn 83 = .ok (.iaload, 1) := by decide +kernel
theorem dL_turn_84 : decode cL_turn 84 = .ok (.imul, 1) := by decide +kernel
theorem dL_turn_85 : decode cL_turn 85 = .ok (.istore 6, 2) := by decide +kernel
theorem dL_turn_87 : decode cL_turn 87 = .ok (.aload_n 1, 1) := by decide +kernel
theorem dL_turn_88 : decode cL_turn 88 = .ok (.iload 6, 2) := by decide +kernel
theorem dL_turn_90 : decode cL_turn 90 = .ok (.iconst 4, 1) := by decide +kernel
theorem dL_turn_91 : decode cL_turn 91 = .ok (.iadd, 1) := by decide +kernel
theorem dL_turn_92 : decode cL_turn 92 = .ok (.iaload, 1) := by decide +kernel
theorem dL_turn_93 : decode cL_turn 93 = .ok (.ifCond .ne 31, 3) := by decide +kernel
theorem dL_turn_96 : decode cL_turn 96 = .ok (.aload_n 1, 1) := by decide +kernel
theorem dL_turn_97 : decode cL_turn 97 = .ok (.iload 6, 2) := by decide +kernel
theorem dL_turn_99 : decode cL_turn 99 = .ok (.iconst 3, 1) := by decide +kernel
theorem dL_turn_100 : decode cL_turn 100 = .ok (.iadd, 1) := by decide +kernel
theorem dL_turn_101 : decode cL_turn 101 = .ok (.aload_n 2, 1) := by decide +kernel
theorem dL_turn_102 : decode cL_turn 102 = .ok (.iconst 4, 1) := by decide +kernel
theorem dL_turn_103 : decode cL_turn 103 = .ok (.iload 5, 2) := by decide +kernel
theorem dL_turn_105 : decode cL_turn 105 = .ok (.imul, 1) := by decide +kernel
theorem dL_turn_106 : decode cL_turn 106 = .ok (.iconst 2, 1) := by decide +kernel
theorem dL_turn_107 : decode cL_turn 107 = .ok (.iadd, 1) := by decide +kernel
theorem dL_turn_108 : decode cL_turn 108 = .ok (.iaload, 1) := by decide +kernel
theorem dL_turn_109 : decode cL_turn 109 = .ok (.iastore, 1) := by decide +kernel
theorem dL_turn_110 : decode cL_turn 110 = .ok (.aload_n 1, 1) := by decide +kernel
theorem dL_turn_111 : decode cL_turn 111 = .ok (.iload 6, 2) := by decide +kernel
theorem dL_turn_113 : decode cL_turn 113 = .ok (.bipush 7, 2) := by decide +kernel
theorem dL_turn_115 : decode cL_turn 115 = .ok (.iadd, 1) := by decide +kernel
theorem dL_turn_116 : decode cL_turn 116 = .ok (.dup2, 1) := by decide +kernel
theorem dL_turn_117 : decode cL_turn 117 = .ok (.iaload, 1) := by decide +kernel
theorem dL_turn_118 : decode cL_turn 118 = .ok (.iconst 1, 1) := by decide +kernel
theorem dL_turn_119 : decode cL_turn 119 = .ok (.iadd, 1) := by decide +kernel
theorem dL_turn_120 : decode cL_turn 120 = .ok (.iastore, 1) := by decide +kernel
theorem dL_turn_121 : decode cL_turn 121 = .ok (.goto 10, 3) := by decide +kernel
theorem dL_turn_124 : decode cL_turn 124 = .ok (.aload_n 3, 1) := by decide +kernel
theorem dL_turn_125 : decode cL_turn 125 = .ok (.iconst 4, 1) := by decide +kernel
theorem dL_turn_126 : decode cL_turn 126 = .ok (.dup2, 1) := by decide +kernel
theorem dL_turn_127 : decode cL_turn 127 = .ok (.iaload, 1) := by decide +kernel
theorem dL_turn_128 : decode cL_turn 128 = .ok (.iconst 1, 1) := by decide +kernel
theorem dL_turn_129 : decode cL_turn 129 = .ok (.iadd, 1) := by decide +kernel
theorem dL_turn_130 : decode cL_turn 130 = .ok (.iastore, 1) := by decide +kernel
theorem dL_turn_131 : decode cL_turn 131 = .ok (.iinc 5 1, 3) := by decide +kernel
theorem dL_turn_134 : decode cL_turn 134 = .ok (.goto (-121), 3) := by decide +kernel
theorem dL_turn_137 : decode cL_turn 137 = .ok (.aload_n 3, 1) := by decide +kernel
theorem dL_turn_138 : decode cL_turn 138 = .ok (.iconst 2, 1) := by decide +kernel
theorem dL_turn_139 : decode cL_turn 139 = .ok (.iload 4, 2) := by decide +kernel
theorem dL_turn_141 : decode cL_turn 141 = .ok (.iastore, 1) := by decide +kernel
theorem dL_turn_142 : decode cL_turn 142 = .ok (.bipush 64, 2) := by decide +kernel
theorem dL_turn_144 : decode cL_turn 144 = .ok (.newarray .int, 2) := by decide +kernel
theorem dL_turn_146 : decode cL_turn 146 = .ok (.astore 5, 2) := by decide +kernel
theorem dL_turn_148 : decode cL_turn 148 = .ok (.iconst 0, 1) := by decide +kernel
theorem dL_turn_149 : decode cL_turn 149 = .ok (.istore 6, 2) := by decide +kernel
theorem dL_turn_151 : decode cL_turn 151 = .ok (.iload 6, 2) := by decide +kernel
theorem dL_turn_153 : decode cL_turn 153 = .ok (.aload_n 3, 1) := by decide +kernel
theorem dL_turn_154 : decode cL_turn 154 = .ok (.iconst 1, 1) := by decide +kernel
theorem dL_turn_155 : decode cL_turn 155 = .ok (.iaload, 1) := by decide +kernel
theorem dL_turn_156 : decode cL_turn 156 = .ok (.if_icmp .ge 213, 3) := by decide +kernel
theorem dL_turn_159 : decode cL_turn 159 = .ok (.aload_n 1, 1) := by decide +kernel
theorem dL_turn_160 : decode cL_turn 160 = .ok (.bipush 8, 2) := by decide +kernel
theorem dL_turn_162 : decode cL_turn 162 = .ok (.iload 6, 2) := by decide +kernel
theorem dL_turn_164 : decode cL_turn 164 = .ok (.imul, 1) := by decide +kernel
theorem dL_turn_165 : decode cL_turn 165 = .ok (.iconst 1, 1) := by decide +kernel
theorem dL_turn_166 : decode cL_turn 166 = .ok (.iadd, 1) := by decide +kernel
theorem dL_turn_167 : decode cL_turn 167 = .ok (.iaload, 1) := by decide +kernel
theorem dL_turn_168 : decode cL_turn 168 = .ok (.istore 7, 2) := by decide +kernel
theorem dL_turn_170 : decode cL_turn 170 = .ok (.aload_n 1, 1) := by decide +kernel
theorem dL_turn_171 : decode cL_turn 171 = .ok (.bipush 8, 2) := by decide +kernel
theorem dL_turn_173 : decode cL_turn 173 = .ok (.iload 6, 2) := by decide +kernel
theorem dL_turn_175 : decode cL_turn 175 = .ok (.imul, 1) := by decide +kernel
theorem dL_turn_176 : decode cL_turn 176 = .ok (.iconst 4, 1) := by decide +kernel
theorem dL_turn_177 : decode cL_turn 177 = .ok (.iadd, 1) := by decide +kernel
theorem dL_turn_178 : decode cL_turn 178 = .ok (.iaload, 1) := by decide +kernel
theorem dL_turn_179 : decode cL_turn 179 = .ok (.iconst 1, 1) := by decide +kernel
theorem dL_turn_180 : decode cL_turn 180 = .ok (.if_icmp .ne 52, 3) := by decide +kernel
theorem dL_turn_183 : decode cL_turn 183 = .ok (.iload 7, 2) := by decide +kernel
theorem dL_turn_185 : decode cL_turn 185 = .ok (.aload_n 1, 1) := by decide +kernel
theorem dL_turn_186 : decode cL_turn 186 = .ok (.bipush 8, 2) := by decide +kernel
theorem dL_turn_188 : decode cL_turn 188 = .ok (.iload 6, 2) := by decide +kernel
theorem dL_turn_190 : decode cL_turn 190 = .ok (.imul, 1) := by decide +kernel
theorem dL_turn_191 : decode cL_turn 191 = .ok (.iaload, 1) := by decide +kernel
theorem dL_turn_192 : decode cL_turn 192 = .ok (.ifCond .ne 7, 3) := by decide +kernel
theorem dL_turn_195 : decode cL_turn 195 = .ok (.iconst 3, 1) := by decide +kernel
theorem dL_turn_196 : decode cL_turn 196 = .ok (.goto 4, 3) := by decide +kernel
theorem dL_turn_199 : decode cL_turn 199 = .ok (.iconst 1, 1) := by decide +kernel
theorem dL_turn_200 : decode cL_turn 200 = .ok (.aload_n 0, 1) := by decide +kernel
theorem dL_turn_201 : decode cL_turn 201 = .ok (.invokestatic 21, 3) := by decide +kernel
theorem dL_turn_204 : decode cL_turn 204 = .ok (.istore 8, 2) := by decide +kernel
theorem dL_turn_206 : decode cL_turn 206 = .ok (.iload 8, 2) := by decide +kernel
theorem dL_turn_208 : decode cL_turn 208 = .ok (.ifCond .lt 24, 3) := by decide +kernel
theorem dL_turn_211 : decode cL_turn 211 = .ok (.iload 8, 2) := by decide +kernel
theorem dL_turn_213 : decode cL_turn 213 = .ok (.aload_n 1, 1) := by decide +kernel
theorem dL_turn_214 : decode cL_turn 214 = .ok (.aload_n 3, 1) := by decide +kernel
theorem dL_turn_215 : decode cL_turn 215 = .ok (.invokestatic 25, 3) := by decide +kernel
theorem dL_turn_218 : decode cL_turn 218 = .ok (.ifCond .ge 14, 3) := by decide +kernel
theorem dL_turn_221 : decode cL_turn 221 = .ok (.aload_n 1, 1) := by decide +kernel
theorem dL_turn_222 : decode cL_turn 222 = .ok (.bipush 8, 2) := by decide +kernel
theorem dL_turn_224 : decode cL_turn 224 = .ok (.iload 6, 2) := by decide +kernel
theorem dL_turn_226 : decode cL_turn 226 = .ok (.imul, 1) := by decide +kernel
theorem dL_turn_227 : decode cL_turn 227 = .ok (.iconst 1, 1) := by decide +kernel
theorem dL_turn_228 : decode cL_turn 228 = .ok (.iadd, 1) := by decide +kernel
theorem dL_turn_229 : decode cL_turn 229 = .ok (.iload 8, 2) := by decide +kernel
theorem dL_turn_231 : decode cL_turn 231 = .ok (.iastore, 1) := by decide +kernel
theorem dL_turn_232 : decode cL_turn 232 = .ok (.aload_n 1, 1) := by decide +kernel
theorem dL_turn_233 : decode cL_turn 233 = .ok (.bipush 8, 2) := by decide +kernel
theorem dL_turn_235 : decode cL_turn 235 = .ok (.iload 6, 2) := by decide +kernel
theorem dL_turn_237 : decode cL_turn 237 = .ok (.imul, 1) := by decide +kernel
theorem dL_turn_238 : decode cL_turn 238 = .ok (.iconst 4, 1) := by decide +kernel
theorem dL_turn_239 : decode cL_turn 239 = .ok (.iadd, 1) := by decide +kernel
theorem dL_turn_240 : decode cL_turn 240 = .ok (.iaload, 1) := by decide +kernel
theorem dL_turn_241 : decode cL_turn 241 = .ok (.ifCond .ne 122, 3) := by decide +kernel
theorem dL_turn_244 : decode cL_turn 244 = .ok (.iload 7, 2) := by decide +kernel
theorem dL_turn_246 : decode cL_turn 246 = .ok (.aload_n 1, 1) := by decide +kernel
theorem dL_turn_247 : decode cL_turn 247 = .ok (.bipush 8, 2) := by decide +kernel
theorem dL_turn_249 : decode cL_turn 249 = .ok (.iload 6, 2) := by decide +kernel
theorem dL_turn_251 : decode cL_turn 251 = .ok (.imul, 1) := by decide +kernel
theorem dL_turn_252 : decode cL_turn 252 = .ok (.iconst 3, 1) := by decide +kernel
theorem dL_turn_253 : decode cL_turn 253 = .ok (.iadd, 1) := by decide +kernel
theorem dL_turn_254 : decode cL_turn 254 = .ok (.iaload, 1) := by decide +kernel
theorem dL_turn_255 : decode cL_turn 255 = .ok (.if_icmp .ne 6, 3) := by decide +kernel
theorem dL_turn_258 : decode cL_turn 258 = .ok (.goto 105, 3) := by decide +kernel
theorem dL_turn_261 : decode cL_turn 261 = .ok (.aload_n 1, 1) := by decide +kernel
theorem dL_turn_262 : decode cL_turn 262 = .ok (.bipush 8, 2) := by decide +kernel
theorem dL_turn_264 : decode cL_turn 264 = .ok (.iload 6, 2) := by decide +kernel
theorem dL_turn_266 : decode cL_turn 266 = .ok (.imul, 1) := by decide +kernel
theorem dL_turn_267 : decode cL_turn 267 = .ok (.iconst 3, 1) := by decide +kernel
theorem dL_turn_268 : decode cL_turn 268 = .ok (.iadd, 1) := by decide +kernel
theorem dL_turn_269 : decode cL_turn 269 = .ok (.iaload, 1) := by decide +kernel
theorem dL_turn_270 : decode cL_turn 270 = .ok (.iload 6, 2) := by decide +kernel
theorem dL_turn_272 : decode cL_turn 272 = .ok (.aload 5, 2) := by decide +kernel
theorem dL_turn_274 : decode cL_turn 274 = .ok (.aload_n 0, 1) := by decide +kernel
theorem dL_turn_275 : decode cL_turn 275 = .ok (.aload_n 1, 1) := by decide +kernel
theorem dL_turn_276 : decode cL_turn 276 = .ok (.aload_n 3, 1) := by decide +kernel
theorem dL_turn_277 : decode cL_turn 277 = .ok (.invokestatic 33, 3) := by decide +kernel
theorem dL_turn_280 : decode cL_turn 280 = .ok (.iconst 0, 1) := by decide +kernel
theorem dL_turn_281 : decode cL_turn 281 = .ok (.istore 8, 2) := by decide +kernel
theorem dL_turn_283 : decode cL_turn 283 = .ok (.iload 8, 2) := by decide +kernel
theorem dL_turn_285 : decode cL_turn 285 = .ok (.iconst 4, 1) := by decide +kernel
theorem dL_turn_286 : decode cL_turn 286 = .ok (.if_icmp .ge 77, 3) := by decide +kernel
theorem dL_turn_289 : decode cL_turn 289 = .ok (.iload 7, 2) := by decide +kernel
theorem dL_turn_291 : decode cL_turn 291 = .ok (.iload 8, 2) := by decide +kernel
theorem dL_turn_293 : decode cL_turn 293 = .ok (.aload_n 0, 1) := by decide +kernel
theorem dL_turn_294 : decode cL_turn 294 = .ok (.invokestatic 21, 3) := by decide +kernel
theorem dL_turn_297 : decode cL_turn 297 = .ok (.istore 9, 2) := by decide +kernel
theorem dL_turn_299 : decode cL_turn 299 = .ok (.iload 9, 2) := by decide +kernel
theorem dL_turn_301 : decode cL_turn 301 = .ok (.ifCond .lt 56, 3) := by decide +kernel
theorem dL_turn_304 : decode cL_turn 304 = .ok (.aload 5, 2) := by decide +kernel
theorem dL_turn_306 : decode cL_turn 306 = .ok (.iload 7, 2) := by decide +kernel
theorem dL_turn_308 : decode cL_turn 308 = .ok (.iaload, 1) := by decide +kernel
theorem dL_turn_309 : decode cL_turn 309 = .ok (.sipush 999, 3) := by decide +kernel
theorem dL_turn_312 : decode cL_turn 312 = .ok (.if_icmp .eq 45, 3) := by decide +kernel
theorem dL_turn_315 : decode cL_turn 315 = .ok (.aload 5, 2) := by decide +kernel
theorem dL_turn_317 : decode cL_turn 317 = .ok (.iload 9, 2) := by decide +kernel
theorem dL_turn_319 : decode cL_turn 319 = .ok (.iaload, 1) := by decide +kernel
theorem dL_turn_320 : decode cL_turn 320 = .ok (.aload 5, 2) := by decide +kernel
theorem dL_turn_322 : decode cL_turn 322 = .ok (.iload 7, 2) := by decide +kernel
theorem dL_turn_324 : decode cL_turn 324 = .ok (.iaload, 1) := by decide +kernel
theorem dL_turn_325 : decode cL_turn 325 = .ok (.iconst 1, 1) := by decide +kernel
theorem dL_turn_326 : decode cL_turn 326 = .ok (.isub, 1) := by decide +kernel
theorem dL_turn_327 : decode cL_turn 327 = .ok (.if_icmp .ne 30, 3) := by decide +kernel
theorem dL_turn_330 : decode cL_turn 330 = .ok (.iload 9, 2) := by decide +kernel
theorem dL_turn_332 : decode cL_turn 332 = .ok (.aload_n 1, 1) := by decide +kernel
theorem dL_turn_333 : decode cL_turn 333 = .ok (.aload_n 3, 1) := by decide +kernel
theorem dL_turn_334 : decode cL_turn 334 = .ok (.invokestatic 25, 3) := by decide +kernel
theorem dL_turn_337 : decode cL_turn 337 = .ok (.ifCond .lt 6, 3) := by decide +kernel
theorem dL_turn_340 : decode cL_turn 340 = .ok (.goto 17, 3) := by decide +kernel
theorem dL_turn_343 : decode cL_turn 343 = .ok (.aload_n 1, 1) := by decide +kernel
theorem dL_turn_344 : decode cL_turn 344 = .ok (.bipush 8, 2) := by decide +kernel
theorem dL_turn_346 : decode cL_turn 346 = .ok (.iload 6, 2) := by decide +kernel
theorem dL_turn_348 : decode cL_turn 348 = .ok (.imul, 1) := by decide +kernel
theorem dL_turn_349 : decode cL_turn 349 = .ok (.iconst 1, 1) := by decide +kernel
theorem dL_turn_350 : decode cL_turn 350 = .ok (.iadd, 1) := by decide +kernel
theorem dL_turn_351 : decode cL_turn 351 = .ok (.iload 9, 2) := by decide +kernel
theorem dL_turn_353 : decode cL_turn 353 = .ok (.iastore, 1) := by decide +kernel
theorem dL_turn_354 : decode cL_turn 354 = .ok (.goto 9, 3) := by decide +kernel
theorem dL_turn_357 : decode cL_turn 357 = .ok (.iinc 8 1, 3) := by decide +kernel
theorem dL_turn_360 : decode cL_turn 360 = .ok (.goto (-77), 3) := by decide +kernel
theorem dL_turn_363 : decode cL_turn 363 = .ok (.iinc 6 1, 3) := by decide +kernel
theorem dL_turn_366 : decode cL_turn 366 = .ok (.goto (-215), 3) := by decide +kernel
theorem dL_turn_369 : decode cL_turn 369 = .ok (.iconst 0, 1) := by decide +kernel
theorem dL_turn_370 : decode cL_turn 370 = .ok (.istore 6, 2) := by decide +kernel
theorem dL_turn_372 : decode cL_turn 372 = .ok (.iload 6, 2) := by decide +kernel
theorem dL_turn_374 : decode cL_turn 374 = .ok (.aload_n 3, 1) := by decide +kernel
theorem dL_turn_375 : decode cL_turn 375 = .ok (.iconst 1, 1) := by decide +kernel
theorem dL_turn_376 : decode cL_turn 376 = .ok (.iaload, 1) := by decide +kernel
theorem dL_turn_377 : decode cL_turn 377 = .ok (.if_icmp .ge 193, 3) := by decide +kernel
theorem dL_turn_380 : decode cL_turn 380 = .ok (.iconst 0, 1) := by decide +kernel
theorem dL_turn_381 : decode cL_turn 381 = .ok (.istore 7, 2) := by decide +kernel
theorem dL_turn_383 : decode cL_turn 383 = .ok (.iconst 0, 1) := by decide +kernel
theorem dL_turn_384 : decode cL_turn 384 = .ok (.istore 8, 2) := by decide +kernel
theorem dL_turn_386 : decode cL_turn 386 = .ok (.iload 8, 2) := by decide +kernel
theorem dL_turn_388 : decode cL_turn 388 = .ok (.aload_n 3, 1) := by decide +kernel
theorem dL_turn_389 : decode cL_turn 389 = .ok (.iconst 1, 1) := by decide +kernel
theorem dL_turn_390 : decode cL_turn 390 = .ok (.iaload, 1) := by decide +kernel
theorem dL_turn_391 : decode cL_turn 391 = .ok (.if_icmp .ge 118, 3) := by decide +kernel
theorem dL_turn_394 : decode cL_turn 394 = .ok (.aload_n 1, 1) := by decide +kernel
theorem dL_turn_395 : decode cL_turn 395 = .ok (.bipush 8, 2) := by decide +kernel
theorem dL_turn_397 : decode cL_turn 397 = .ok (.iload 6, 2) := by decide +kernel
theorem dL_turn_399 : decode cL_turn 399 = .ok (.imul, 1) := by decide +kernel
theorem dL_turn_400 : decode cL_turn 400 = .ok (.iconst 1, 1) := by decide +kernel
theorem dL_turn_401 : decode cL_turn 401 = .ok (.iadd, 1) := by decide +kernel
theorem dL_turn_402 : decode cL_turn 402 = .ok (.iaload, 1) := by decide +kernel
theorem dL_turn_403 : decode cL_turn 403 = .ok (.istore 9, 2) := by decide +kernel
theorem dL_turn_405 : decode cL_turn 405 = .ok (.aload_n 1, 1) := by decide +kernel
theorem dL_turn_406 : decode cL_turn 406 = .ok (.bipush 8, 2) := by decide +kernel
theorem dL_turn_408 : decode cL_turn 408 = .ok (.iload 8, 2) := by decide +kernel
theorem dL_turn_410 : decode cL_turn 410 = .ok (.imul, 1) := by decide +kernel
theorem dL_turn_411 : decode cL_turn 411 = .ok (.iconst 1, 1) := by decide +kernel
theorem dL_turn_412 : decode cL_turn 412 = .ok (.iadd, 1) := by decide +kernel
theorem dL_turn_413 : decode cL_turn 413 = .ok (.iaload, 1) := by decide +kernel
theorem dL_turn_414 : decode cL_turn 414 = .ok (.istore 10, 2) := by decide +kernel
theorem dL_turn_416 : decode cL_turn 416 = .ok (.aload_n 1, 1) := by decide +kernel
theorem dL_turn_417 : decode cL_turn 417 = .ok (.bipush 8, 2) := by decide +kernel
theorem dL_turn_419 : decode cL_turn 419 = .ok (.iload 8, 2) := by decide +kernel
theorem dL_turn_421 : decode cL_turn 421 = .ok (.imul, 1) := by decide +kernel
theorem dL_turn_422 : decode cL_turn 422 = .ok (.iconst 4, 1) := by decide +kernel
theorem dL_turn_423 : decode cL_turn 423 = .ok (.iadd, 1) := by decide +kernel
theorem dL_turn_424 : decode cL_turn 424 = .ok (.iaload, 1) := by decide +kernel
theorem dL_turn_425 : decode cL_turn 425 = .ok (.iconst 2, 1) := by decide +kernel
theorem dL_turn_426 : decode cL_turn 426 = .ok (.if_icmp .eq 77, 3) := by decide +kernel
theorem dL_turn_429 : decode cL_turn 429 = .ok (.aload_n 1, 1) := by decide +kernel
theorem dL_turn_430 : decode cL_turn 430 = .ok (.bipush 8, 2) := by decide +kernel
theorem dL_turn_432 : decode cL_turn 432 = .ok (.iload 8, 2) := by decide +kernel
theorem dL_turn_434 : decode cL_turn 434 = .ok (.imul, 1) := by decide +kernel
theorem dL_turn_435 : decode cL_turn 435 = .ok (.iaload, 1) := by decide +kernel
theorem dL_turn_436 : decode cL_turn 436 = .ok (.aload_n 1, 1) := by decide +kernel
theorem dL_turn_437 : decode cL_turn 437 = .ok (.bipush 8, 2) := by decide +kernel
theorem dL_turn_439 : decode cL_turn 439 = .ok (.iload 6, 2) := by decide +kernel
theorem dL_turn_441 : decode cL_turn 441 = .ok (.imul, 1) := by decide +kernel
theorem dL_turn_442 : decode cL_turn 442 = .ok (.iaload, 1) := by decide +kernel
theorem dL_turn_443 : decode cL_turn 443 = .ok (.if_icmp .eq 60, 3) := by decide +kernel
theorem dL_turn_446 : decode cL_turn 446 = .ok (.iload 9, 2) := by decide +kernel
theorem dL_turn_448 : decode cL_turn 448 = .ok (.bipush 8, 2) := by decide +kernel
theorem dL_turn_450 : decode cL_turn 450 = .ok (.irem, 1) := by decide +kernel
theorem dL_turn_451 : decode cL_turn 451 = .ok (.iload 10, 2) := by decide +kernel
theorem dL_turn_453 : decode cL_turn 453 = .ok (.bipush 8, 2) := by decide +kernel
theorem dL_turn_455 : decode cL_turn 455 = .ok (.irem, 1) := by decide +kernel
theorem dL_turn_456 : decode cL_turn 456 = .ok (.isub, 1) := by decide +kernel
theorem dL_turn_457 : decode cL_turn 457 = .ok (.invokestatic 14, 3) := by decide +kernel
theorem dL_turn_460 : decode cL_turn 460 = .ok (.iload 9, 2) := by decide +kernel
theorem dL_turn_462 : decode cL_turn 462 = .ok (.bipush 8, 2) := by decide +kernel
theorem dL_turn_464 : decode cL_turn 464 = .ok (.idiv, 1) := by decide +kernel
theorem dL_turn_465 : decode cL_turn 465 = .ok (.iload 10, 2) := by decide +kernel
theorem dL_turn_467 : decode cL_turn 467 = .ok (.bipush 8, 2) := by decide +kernel
theorem dL_turn_469 : decode cL_turn 469 = .ok (.idiv, 1) := by decide +kernel
theorem dL_turn_470 : decode cL_turn 470 = .ok (.isub, 1) := by decide +kernel
theorem dL_turn_471 : decode cL_turn 471 = .ok (.invokestatic 14, 3) := by decide +kernel
theorem dL_turn_474 : decode cL_turn 474 = .ok (.iadd, 1) := by decide +kernel
theorem dL_turn_475 : decode cL_turn 475 = .ok (.iconst 1, 1) := by decide +kernel
theorem dL_turn_476 : decode cL_turn 476 = .ok (.if_icmp .eq 6, 3) := by decide +kernel
theorem dL_turn_479 : decode cL_turn 479 = .ok (.goto 24, 3) := by decide +kernel
theorem dL_turn_482 : decode cL_turn 482 = .ok (.iload 7, 2) := by decide +kernel
theorem dL_turn_484 : decode cL_turn 484 = .ok (.aload_n 0, 1) := by decide +kernel
theorem dL_turn_485 : decode cL_turn 485 = .ok (.iload 10, 2) := by decide +kernel
theorem dL_turn_487 : decode cL_turn 487 = .ok (.iaload, 1) := by decide +kernel
theorem dL_turn_488 : decode cL_turn 488 = .ok (.aload_n 0, 1) := by decide +kernel
theorem dL_turn_489 : decode cL_turn 489 = .ok (.iload 9, 2) := by decide +kernel
theorem dL_turn_491 : decode cL_turn 491 = .ok (.iaload, 1) := by decide +kernel
theorem dL_turn_492 : decode cL_turn 492 = .ok (.if_icmp .le 7, 3) := by decide +kernel
theorem dL_turn_495 : decode cL_turn 495 = .ok (.iconst 2, 1) := by decide +kernel
theorem dL_turn_496 : decode cL_turn 496 = .ok (.goto 4, 3) := by decide +kernel
theorem dL_turn_499 : decode cL_turn 499 = .ok (.iconst 1, 1) := by decide +kernel
theorem dL_turn_500 : decode cL_turn 500 = .ok (.iadd, 1) := by decide +kernel
theorem dL_turn_501 : decode cL_turn 501 = .ok (.istore 7, 2) := by decide +kernel
theorem dL_turn_503 : decode cL_turn 503 = .ok (.iinc 8 1, 3) := by decide +kernel
theorem dL_turn_506 : decode cL_turn 506 = .ok (.goto (-120), 3) := by decide +kernel
theorem dL_turn_509 : decode cL_turn 509 = .ok (.aload_n 1, 1) := by decide +kernel
theorem dL_turn_510 : decode cL_turn 510 = .ok (.bipush 8, 2) := by decide +kernel
theorem dL_turn_512 : decode cL_turn 512 = .ok (.iload 6, 2) := by decide +kernel
theorem dL_turn_514 : decode cL_turn 514 = .ok (.imul, 1) := by decide +kernel
theorem dL_turn_515 : decode cL_turn 515 = .ok (.bipush 6, 2) := by decide +kernel
theorem dL_turn_517 : decode cL_turn 517 = .ok (.iadd, 1) := by decide +kernel
theorem dL_turn_518 : decode cL_turn 518 = .ok (.aload_n 1, 1) := by decide +kernel
theorem dL_turn_519 : decode cL_turn 519 = .ok (.bipush 8, 2) := by decide +kernel
theorem dL_turn_521 : decode cL_turn 521 = .ok (.iload 6, 2) := by decide +kernel
theorem dL_turn_523 : decode cL_turn 523 = .ok (.imul, 1) := by decide +kernel
theorem dL_turn_524 : decode cL_turn 524 = .ok (.iconst 4, 1) := by decide +kernel
theorem dL_turn_525 : decode cL_turn 525 = .ok (.iadd, 1) := by decide +kernel
theorem dL_turn_526 : decode cL_turn 526 = .ok (.iaload, 1) := by decide +kernel
theorem dL_turn_527 : decode cL_turn 527 = .ok (.iconst 2, 1) := by decide +kernel
theorem dL_turn_528 : decode cL_turn 528 = .ok (.if_icmp .ne 7, 3) := by decide +kernel
theorem dL_turn_531 : decode cL_turn 531 = .ok (.iconst 0, 1) := by decide +kernel
theorem dL_turn_532 : decode cL_turn 532 = .ok (.goto 31, 3) := by decide +kernel
theorem dL_turn_535 : decode cL_turn 535 = .ok (.iload 7, 2) := by decide +kernel
theorem dL_turn_537 : decode cL_turn 537 = .ok (.aload_n 1, 1) := by decide +kernel
end
section
theorem dL_turn_538 : decode cL_turn 538 = .ok (.bipush 8, 2) := by decide +kernel
theorem dL_turn_540 : decode cL_turn 540 = .ok (.iload 6, 2) := by decide +kernel
theorem dL_turn_542 : decode cL_turn 542 = .ok (.imul, 1) := by decide +kernel
theorem dL_turn_543 : decode cL_turn 543 = .ok (.iconst 2, 1) := by decide +kernel
theorem dL_turn_544 : decode cL_turn 544 = .ok (.iadd, 1) := by decide +kernel
theorem dL_turn_545 : decode cL_turn 545 = .ok (.iaload, 1) := by decide +kernel
theorem dL_turn_546 : decode cL_turn 546 = .ok (.if_icmp .le 15, 3) := by decide +kernel
theorem dL_turn_549 : decode cL_turn 549 = .ok (.aload_n 1, 1) := by decide +kernel
theorem dL_turn_550 : decode cL_turn 550 = .ok (.bipush 8, 2) := by decide +kernel
theorem dL_turn_552 : decode cL_turn 552 = .ok (.iload 6, 2) := by decide +kernel
theorem dL_turn_554 : decode cL_turn 554 = .ok (.imul, 1) := by decide +kernel
theorem dL_turn_555 : decode cL_turn 555 = .ok (.iconst 2, 1) := by decide +kernel
theorem dL_turn_556 : decode cL_turn 556 = .ok (.iadd, 1) := by decide +kernel
theorem dL_turn_557 : decode cL_turn 557 = .ok (.iaload, 1) := by decide +kernel
theorem dL_turn_558 : decode cL_turn 558 = .ok (.goto 5, 3) := by decide +kernel
theorem dL_turn_561 : decode cL_turn 561 = .ok (.iload 7, 2) := by decide +kernel
theorem dL_turn_563 : decode cL_turn 563 = .ok (.iastore, 1) := by decide +kernel
theorem dL_turn_564 : decode cL_turn 564 = .ok (.iinc 6 1, 3) := by decide +kernel
theorem dL_turn_567 : decode cL_turn 567 = .ok (.goto (-195), 3) := by decide +kernel
theorem dL_turn_570 : decode cL_turn 570 = .ok (.iconst 0, 1) := by decide +kernel
theorem dL_turn_571 : decode cL_turn 571 = .ok (.istore 6, 2) := by decide +kernel
theorem dL_turn_573 : decode cL_turn 573 = .ok (.iload 6, 2) := by decide +kernel
theorem dL_turn_575 : decode cL_turn 575 = .ok (.aload_n 3, 1) := by decide +kernel
theorem dL_turn_576 : decode cL_turn 576 = .ok (.iconst 1, 1) := by decide +kernel
theorem dL_turn_577 : decode cL_turn 577 = .ok (.iaload, 1) := by decide +kernel
theorem dL_turn_578 : decode cL_turn 578 = .ok (.if_icmp .ge 77, 3) := by decide +kernel
theorem dL_turn_581 : decode cL_turn 581 = .ok (.aload_n 1, 1) := by decide +kernel
theorem dL_turn_582 : decode cL_turn 582 = .ok (.bipush 8, 2) := by decide +kernel
theorem dL_turn_584 : decode cL_turn 584 = .ok (.iload 6, 2) := by decide +kernel
theorem dL_turn_586 : decode cL_turn 586 = .ok (.imul, 1) := by decide +kernel
theorem dL_turn_587 : decode cL_turn 587 = .ok (.iconst 2, 1) := by decide +kernel
theorem dL_turn_588 : decode cL_turn 588 = .ok (.iadd, 1) := by decide +kernel
theorem dL_turn_589 : decode cL_turn 589 = .ok (.dup2, 1) := by decide +kernel
theorem dL_turn_590 : decode cL_turn 590 = .ok (.iaload, 1) := by decide +kernel
theorem dL_turn_591 : decode cL_turn 591 = .ok (.aload_n 1, 1) := by decide +kernel
theorem dL_turn_592 : decode cL_turn 592 = .ok (.bipush 8, 2) := by decide +kernel
theorem dL_turn_594 : decode cL_turn 594 = .ok (.iload 6, 2) := by decide +kernel
theorem dL_turn_596 : decode cL_turn 596 = .ok (.imul, 1) := by decide +kernel
theorem dL_turn_597 : decode cL_turn 597 = .ok (.bipush 6, 2) := by decide +kernel
theorem dL_turn_599 : decode cL_turn 599 = .ok (.iadd, 1) := by decide +kernel
theorem dL_turn_600 : decode cL_turn 600 = .ok (.iaload, 1) := by decide +kernel
theorem dL_turn_601 : decode cL_turn 601 = .ok (.isub, 1) := by decide +kernel
theorem dL_turn_602 : decode cL_turn 602 = .ok (.iastore, 1) := by decide +kernel
theorem dL_turn_603 : decode cL_turn 603 = .ok (.aload_n 3, 1) := by decide +kernel
theorem dL_turn_604 : decode cL_turn 604 = .ok (.iconst 5, 1) := by decide +kernel
theorem dL_turn_605 : decode cL_turn 605 = .ok (.aload_n 1, 1) := by decide +kernel
theorem dL_turn_606 : decode cL_turn 606 = .ok (.bipush 8, 2) := by decide +kernel
theorem dL_turn_608 : decode cL_turn 608 = .ok (.iload 6, 2) := by decide +kernel
theorem dL_turn_610 : decode cL_turn 610 = .ok (.imul, 1) := by decide +kernel
theorem dL_turn_611 : decode cL_turn 611 = .ok (.iaload, 1) := by decide +kernel
theorem dL_turn_612 : decode cL_turn 612 = .ok (.iadd, 1) := by decide +kernel
theorem dL_turn_613 : decode cL_turn 613 = .ok (.dup2, 1) := by decide +kernel
theorem dL_turn_614 : decode cL_turn 614 = .ok (.iaload, 1) := by decide +kernel
theorem dL_turn_615 : decode cL_turn 615 = .ok (.aload_n 1, 1) := by decide +kernel
theorem dL_turn_616 : decode cL_turn 616 = .ok (.bipush 8, 2) := by decide +kernel
theorem dL_turn_618 : decode cL_turn 618 = .ok (.iload 6, 2) := by decide +kernel
theorem dL_turn_620 : decode cL_turn 620 = .ok (.imul, 1) := by decide +kernel
theorem dL_turn_621 : decode cL_turn 621 = .ok (.bipush 6, 2) := by decide +kernel
theorem dL_turn_623 : decode cL_turn 623 = .ok (.iadd, 1) := by decide +kernel
theorem dL_turn_624 : decode cL_turn 624 = .ok (.iaload, 1) := by decide +kernel
theorem dL_turn_625 : decode cL_turn 625 = .ok (.iadd, 1) := by decide +kernel
theorem dL_turn_626 : decode cL_turn 626 = .ok (.iastore, 1) := by decide +kernel
theorem dL_turn_627 : decode cL_turn 627 = .ok (.aload_n 1, 1) := by decide +kernel
theorem dL_turn_628 : decode cL_turn 628 = .ok (.bipush 8, 2) := by decide +kernel
theorem dL_turn_630 : decode cL_turn 630 = .ok (.iload 6, 2) := by decide +kernel
theorem dL_turn_632 : decode cL_turn 632 = .ok (.imul, 1) := by decide +kernel
theorem dL_turn_633 : decode cL_turn 633 = .ok (.iconst 2, 1) := by decide +kernel
theorem dL_turn_634 : decode cL_turn 634 = .ok (.iadd, 1) := by decide +kernel
theorem dL_turn_635 : decode cL_turn 635 = .ok (.iaload, 1) := by decide +kernel
theorem dL_turn_636 : decode cL_turn 636 = .ok (.ifCond .ne 13, 3) := by decide +kernel
theorem dL_turn_639 : decode cL_turn 639 = .ok (.aload_n 1, 1) := by decide +kernel
theorem dL_turn_640 : decode cL_turn 640 = .ok (.bipush 8, 2) := by decide +kernel
theorem dL_turn_642 : decode cL_turn 642 = .ok (.iload 6, 2) := by decide +kernel
theorem dL_turn_644 : decode cL_turn 644 = .ok (.imul, 1) := by decide +kernel
theorem dL_turn_645 : decode cL_turn 645 = .ok (.iconst 4, 1) := by decide +kernel
theorem dL_turn_646 : decode cL_turn 646 = .ok (.iadd, 1) := by decide +kernel
theorem dL_turn_647 : decode cL_turn 647 = .ok (.iconst 2, 1) := by decide +kernel
theorem dL_turn_648 : decode cL_turn 648 = .ok (.iastore, 1) := by decide +kernel
theorem dL_turn_649 : decode cL_turn 649 = .ok (.iinc 6 1, 3) := by decide +kernel
theorem dL_turn_652 : decode cL_turn 652 = .ok (.goto (-79), 3) := by decide +kernel
theorem dL_turn_655 : decode cL_turn 655 = .ok (.iconst 0, 1) := by decide +kernel
theorem dL_turn_656 : decode cL_turn 656 = .ok (.istore 6, 2) := by decide +kernel
theorem dL_turn_658 : decode cL_turn 658 = .ok (.iload 6, 2) := by decide +kernel
theorem dL_turn_660 : decode cL_turn 660 = .ok (.aload_n 3, 1) := by decide +kernel
theorem dL_turn_661 : decode cL_turn 661 = .ok (.iconst 1, 1) := by decide +kernel
theorem dL_turn_662 : decode cL_turn 662 = .ok (.iaload, 1) := by decide +kernel
theorem dL_turn_663 : decode cL_turn 663 = .ok (.if_icmp .ge 222, 3) := by decide +kernel
theorem dL_turn_666 : decode cL_turn 666 = .ok (.aload_n 1, 1) := by decide +kernel
theorem dL_turn_667 : decode cL_turn 667 = .ok (.bipush 8, 2) := by decide +kernel
theorem dL_turn_669 : decode cL_turn 669 = .ok (.iload 6, 2) := by decide +kernel
theorem dL_turn_671 : decode cL_turn 671 = .ok (.imul, 1) := by decide +kernel
theorem dL_turn_672 : decode cL_turn 672 = .ok (.iconst 4, 1) := by decide +kernel
theorem dL_turn_673 : decode cL_turn 673 = .ok (.iadd, 1) := by decide +kernel
theorem dL_turn_674 : decode cL_turn 674 = .ok (.iaload, 1) := by decide +kernel
theorem dL_turn_675 : decode cL_turn 675 = .ok (.ifCond .ne 52, 3) := by decide +kernel
theorem dL_turn_678 : decode cL_turn 678 = .ok (.aload_n 1, 1) := by decide +kernel
theorem dL_turn_679 : decode cL_turn 679 = .ok (.bipush 8, 2) := by decide +kernel
theorem dL_turn_681 : decode cL_turn 681 = .ok (.iload 6, 2) := by decide +kernel
theorem dL_turn_683 : decode cL_turn 683 = .ok (.imul, 1) := by decide +kernel
theorem dL_turn_684 : decode cL_turn 684 = .ok (.bipush 6, 2) := by decide +kernel
theorem dL_turn_686 : decode cL_turn 686 = .ok (.iadd, 1) := by decide +kernel
theorem dL_turn_687 : decode cL_turn 687 = .ok (.iaload, 1) := by decide +kernel
theorem dL_turn_688 : decode cL_turn 688 = .ok (.ifCond .le 39, 3) := by decide +kernel
theorem dL_turn_691 : decode cL_turn 691 = .ok (.iconst 2, 1) := by decide +kernel
theorem dL_turn_692 : decode cL_turn 692 = .ok (.aload_n 1, 1) := by decide +kernel
theorem dL_turn_693 : decode cL_turn 693 = .ok (.bipush 8, 2) := by decide +kernel
theorem dL_turn_695 : decode cL_turn 695 = .ok (.iload 6, 2) := by decide +kernel
theorem dL_turn_697 : decode cL_turn 697 = .ok (.imul, 1) := by decide +kernel
theorem dL_turn_698 : decode cL_turn 698 = .ok (.iconst 2, 1) := by decide +kernel
theorem dL_turn_699 : decode cL_turn 699 = .ok (.iadd, 1) := by decide +kernel
theorem dL_turn_700 : decode cL_turn 700 = .ok (.iaload, 1) := by decide +kernel
theorem dL_turn_701 : decode cL_turn 701 = .ok (.imul, 1) := by decide +kernel
theorem dL_turn_702 : decode cL_turn 702 = .ok (.aload_n 1, 1) := by decide +kernel
theorem dL_turn_703 : decode cL_turn 703 = .ok (.bipush 8, 2) := by decide +kernel
theorem dL_turn_705 : decode cL_turn 705 = .ok (.iload 6, 2) := by decide +kernel
theorem dL_turn_707 : decode cL_turn 707 = .ok (.imul, 1) := by decide +kernel
theorem dL_turn_708 : decode cL_turn 708 = .ok (.iconst 5, 1) := by decide +kernel
theorem dL_turn_709 : decode cL_turn 709 = .ok (.iadd, 1) := by decide +kernel
theorem dL_turn_710 : decode cL_turn 710 = .ok (.iaload, 1) := by decide +kernel
theorem dL_turn_711 : decode cL_turn 711 = .ok (.if_icmp .gt 16, 3) := by decide +kernel
theorem dL_turn_714 : decode cL_turn 714 = .ok (.aload_n 1, 1) := by decide +kernel
theorem dL_turn_715 : decode cL_turn 715 = .ok (.bipush 8, 2) := by decide +kernel
theorem dL_turn_717 : decode cL_turn 717 = .ok (.iload 6, 2) := by decide +kernel
theorem dL_turn_719 : decode cL_turn 719 = .ok (.imul, 1) := by decide +kernel
theorem dL_turn_720 : decode cL_turn 720 = .ok (.iconst 4, 1) := by decide +kernel
theorem dL_turn_721 : decode cL_turn 721 = .ok (.iadd, 1) := by decide +kernel
theorem dL_turn_722 : decode cL_turn 722 = .ok (.iconst 1, 1) := by decide +kernel
theorem dL_turn_723 : decode cL_turn 723 = .ok (.iastore, 1) := by decide +kernel
theorem dL_turn_724 : decode cL_turn 724 = .ok (.goto 155, 3) := by decide +kernel
theorem dL_turn_727 : decode cL_turn 727 = .ok (.aload_n 1, 1) := by decide +kernel
theorem dL_turn_728 : decode cL_turn 728 = .ok (.bipush 8, 2) := by decide +kernel
theorem dL_turn_730 : decode cL_turn 730 = .ok (.iload 6, 2) := by decide +kernel
theorem dL_turn_732 : decode cL_turn 732 = .ok (.imul, 1) := by decide +kernel
theorem dL_turn_733 : decode cL_turn 733 = .ok (.iconst 4, 1) := by decide +kernel
theorem dL_turn_734 : decode cL_turn 734 = .ok (.iadd, 1) := by decide +kernel
theorem dL_turn_735 : decode cL_turn 735 = .ok (.iaload, 1) := by decide +kernel
theorem dL_turn_736 : decode cL_turn 736 = .ok (.iconst 1, 1) := by decide +kernel
theorem dL_turn_737 : decode cL_turn 737 = .ok (.if_icmp .ne 142, 3) := by decide +kernel
theorem dL_turn_740 : decode cL_turn 740 = .ok (.aload_n 1, 1) := by decide +kernel
theorem dL_turn_741 : decode cL_turn 741 = .ok (.bipush 8, 2) := by decide +kernel
theorem dL_turn_743 : decode cL_turn 743 = .ok (.iload 6, 2) := by decide +kernel
theorem dL_turn_745 : decode cL_turn 745 = .ok (.imul, 1) := by decide +kernel
theorem dL_turn_746 : decode cL_turn 746 = .ok (.bipush 6, 2) := by decide +kernel
theorem dL_turn_748 : decode cL_turn 748 = .ok (.iadd, 1) := by decide +kernel
theorem dL_turn_749 : decode cL_turn 749 = .ok (.iaload, 1) := by decide +kernel
theorem dL_turn_750 : decode cL_turn 750 = .ok (.ifCond .le 6, 3) := by decide +kernel
theorem dL_turn_753 : decode cL_turn 753 = .ok (.goto 126, 3) := by decide +kernel
theorem dL_turn_756 : decode cL_turn 756 = .ok (.iconst 0, 1) := by decide +kernel
theorem dL_turn_757 : decode cL_turn 757 = .ok (.istore 7, 2) := by decide +kernel
theorem dL_turn_759 : decode cL_turn 759 = .ok (.iconst 0, 1) := by decide +kernel
theorem dL_turn_760 : decode cL_turn 760 = .ok (.istore 8, 2) := by decide +kernel
theorem dL_turn_762 : decode cL_turn 762 = .ok (.iload 8, 2) := by decide +kernel
theorem dL_turn_764 : decode cL_turn 764 = .ok (.aload_n 3, 1) := by decide +kernel
theorem dL_turn_765 : decode cL_turn 765 = .ok (.iconst 1, 1) := by decide +kernel
theorem dL_turn_766 : decode cL_turn 766 = .ok (.iaload, 1) := by decide +kernel
theorem dL_turn_767 : decode cL_turn 767 = .ok (.if_icmp .ge 76, 3) := by decide +kernel
theorem dL_turn_770 : decode cL_turn 770 = .ok (.iload 7, 2) := by decide +kernel
theorem dL_turn_772 : decode cL_turn 772 = .ok (.ifCond .ne 58, 3) := by decide +kernel
theorem dL_turn_775 : decode cL_turn 775 = .ok (.aload_n 1, 1) := by decide +kernel
theorem dL_turn_776 : decode cL_turn 776 = .ok (.bipush 8, 2) := by decide +kernel
theorem dL_turn_778 : decode cL_turn 778 = .ok (.iload 8, 2) := by decide +kernel
theorem dL_turn_780 : decode cL_turn 780 = .ok (.imul, 1) := by decide +kernel
theorem dL_turn_781 : decode cL_turn 781 = .ok (.iconst 4, 1) := by decide +kernel
theorem dL_turn_782 : decode cL_turn 782 = .ok (.iadd, 1) := by decide +kernel
theorem dL_turn_783 : decode cL_turn 783 = .ok (.iaload, 1) := by decide +kernel
theorem dL_turn_784 : decode cL_turn 784 = .ok (.iconst 2, 1) := by decide +kernel
theorem dL_turn_785 : decode cL_turn 785 = .ok (.if_icmp .ge 49, 3) := by decide +kernel
theorem dL_turn_788 : decode cL_turn 788 = .ok (.aload_n 1, 1) := by decide +kernel
theorem dL_turn_789 : decode cL_turn 789 = .ok (.bipush 8, 2) := by decide +kernel
theorem dL_turn_791 : decode cL_turn 791 = .ok (.iload 8, 2) := by decide +kernel
theorem dL_turn_793 : decode cL_turn 793 = .ok (.imul, 1) := by decide +kernel
theorem dL_turn_794 : decode cL_turn 794 = .ok (.iaload, 1) := by decide +kernel
theorem dL_turn_795 : decode cL_turn 795 = .ok (.aload_n 1, 1) := by decide +kernel
theorem dL_turn_796 : decode cL_turn 796 = .ok (.bipush 8, 2) := by decide +kernel
theorem dL_turn_798 : decode cL_turn 798 = .ok (.iload 6, 2) := by decide +kernel
theorem dL_turn_800 : decode cL_turn 800 = .ok (.imul, 1) := by decide +kernel
theorem dL_turn_801 : decode cL_turn 801 = .ok (.iaload, 1) := by decide +kernel
theorem dL_turn_802 : decode cL_turn 802 = .ok (.if_icmp .eq 32, 3) := by decide +kernel
theorem dL_turn_805 : decode cL_turn 805 = .ok (.aload_n 1, 1) := by decide +kernel
theorem dL_turn_806 : decode cL_turn 806 = .ok (.bipush 8, 2) := by decide +kernel
theorem dL_turn_808 : decode cL_turn 808 = .ok (.iload 6, 2) := by decide +kernel
theorem dL_turn_810 : decode cL_turn 810 = .ok (.imul, 1) := by decide +kernel
theorem dL_turn_811 : decode cL_turn 811 = .ok (.iconst 1, 1) := by decide +kernel
theorem dL_turn_812 : decode cL_turn 812 = .ok (.iadd, 1) := by decide +kernel
theorem dL_turn_813 : decode cL_turn 813 = .ok (.iaload, 1) := by decide +kernel
theorem dL_turn_814 : decode cL_turn 814 = .ok (.aload_n 1, 1) := by decide +kernel
theorem dL_turn_815 : decode cL_turn 815 = .ok (.bipush 8, 2) := by decide +kernel
theorem dL_turn_817 : decode cL_turn 817 = .ok (.iload 8, 2) := by decide +kernel
theorem dL_turn_819 : decode cL_turn 819 = .ok (.imul, 1) := by decide +kernel
theorem dL_turn_820 : decode cL_turn 820 = .ok (.iconst 1, 1) := by decide +kernel
theorem dL_turn_821 : decode cL_turn 821 = .ok (.iadd, 1) := by decide +kernel
theorem dL_turn_822 : decode cL_turn 822 = .ok (.iaload, 1) := by decide +kernel
theorem dL_turn_823 : decode cL_turn 823 = .ok (.aload_n 0, 1) := by decide +kernel
theorem dL_turn_824 : decode cL_turn 824 = .ok (.invokestatic 29, 3) := by decide +kernel
theorem dL_turn_827 : decode cL_turn 827 = .ok (.ifCond .eq 7, 3) := by decide +kernel
theorem dL_turn_830 : decode cL_turn 830 = .ok (.iconst 1, 1) := by decide +kernel
theorem dL_turn_831 : decode cL_turn 831 = .ok (.goto 4, 3) := by decide +kernel
theorem dL_turn_834 : decode cL_turn 834 = .ok (.iconst 0, 1) := by decide +kernel
theorem dL_turn_835 : decode cL_turn 835 = .ok (.istore 7, 2) := by decide +kernel
theorem dL_turn_837 : decode cL_turn 837 = .ok (.iinc 8 1, 3) := by decide +kernel
theorem dL_turn_840 : decode cL_turn 840 = .ok (.goto (-78), 3) := by decide +kernel
theorem dL_turn_843 : decode cL_turn 843 = .ok (.iload 7, 2) := by decide +kernel
theorem dL_turn_845 : decode cL_turn 845 = .ok (.ifCond .eq 6, 3) := by decide +kernel
theorem dL_turn_848 : decode cL_turn 848 = .ok (.goto 31, 3) := by decide +kernel
theorem dL_turn_851 : decode cL_turn 851 = .ok (.aload_n 1, 1) := by decide +kernel
theorem dL_turn_852 : decode cL_turn 852 = .ok (.bipush 8, 2) := by decide +kernel
theorem dL_turn_854 : decode cL_turn 854 = .ok (.iload 6, 2) := by decide +kernel
theorem dL_turn_856 : decode cL_turn 856 = .ok (.imul, 1) := by decide +kernel
theorem dL_turn_857 : decode cL_turn 857 = .ok (.iconst 4, 1) := by decide +kernel
theorem dL_turn_858 : decode cL_turn 858 = .ok (.iadd, 1) := by decide +kernel
theorem dL_turn_859 : decode cL_turn 859 = .ok (.iconst 0, 1) := by decide +kernel
theorem dL_turn_860 : decode cL_turn 860 = .ok (.iastore, 1) := by decide +kernel
theorem dL_turn_861 : decode cL_turn 861 = .ok (.aload_n 1, 1) := by decide +kernel
theorem dL_turn_862 : decode cL_turn 862 = .ok (.bipush 8, 2) := by decide +kernel
theorem dL_turn_864 : decode cL_turn 864 = .ok (.iload 6, 2) := by decide +kernel
theorem dL_turn_866 : decode cL_turn 866 = .ok (.imul, 1) := by decide +kernel
theorem dL_turn_867 : decode cL_turn 867 = .ok (.iconst 3, 1) := by decide +kernel
theorem dL_turn_868 : decode cL_turn 868 = .ok (.iadd, 1) := by decide +kernel
theorem dL_turn_869 : decode cL_turn 869 = .ok (.aload_n 1, 1) := by decide +kernel
theorem dL_turn_870 : decode cL_turn 870 = .ok (.bipush 8, 2) := by decide +kernel
theorem dL_turn_872 : decode cL_turn 872 = .ok (.iload 6, 2) := by decide +kernel
theorem dL_turn_874 : decode cL_turn 874 = .ok (.imul, 1) := by decide +kernel
theorem dL_turn_875 : decode cL_turn 875 = .ok (.iconst 1, 1) := by decide +kernel
theorem dL_turn_876 : decode cL_turn 876 = .ok (.iadd, 1) := by decide +kernel
theorem dL_turn_877 : decode cL_turn 877 = .ok (.iaload, 1) := by decide +kernel
theorem dL_turn_878 : decode cL_turn 878 = .ok (.iastore, 1) := by decide +kernel
theorem dL_turn_879 : decode cL_turn 879 = .ok (.iinc 6 1, 3) := by decide +kernel
theorem dL_turn_882 : decode cL_turn 882 = .ok (.goto (-224), 3) := by decide +kernel
theorem dL_turn_885 : decode cL_turn 885 = .ok (.return_, 1) := by decide +kernel
theorem dL_counted_0 : decode cL_counted 0 = .ok (.iload_n 0, 1) := by decide +kernel
theorem dL_counted_1 : decode cL_counted 1 = .ok (.iconst 2, 1) := by decide +kernel
theorem dL_counted_2 : decode cL_counted 2 = .ok (.if_icmp .ge 7, 3) := by decide +kernel
theorem dL_counted_5 : decode cL_counted 5 = .ok (.aload_n 2, 1) := by decide +kernel
theorem dL_counted_6 : decode cL_counted 6 = .ok (.iload_n 0, 1) := by decide +kernel
theorem dL_counted_7 : decode cL_counted 7 = .ok (.iaload, 1) := by decide +kernel
theorem dL_counted_8 : decode cL_counted 8 = .ok (.ireturn, 1) := by decide +kernel
theorem dL_counted_9 : decode cL_counted 9 = .ok (.iload_n 0, 1) := by decide +kernel
theorem dL_counted_10 : decode cL_counted 10 = .ok (.iconst 3, 1) := by decide +kernel
theorem dL_counted_11 : decode cL_counted 11 = .ok (.if_icmp .le 49, 3) := by decide +kernel
theorem dL_counted_14 : decode cL_counted 14 = .ok (.iload_n 0, 1) := by decide +kernel
theorem dL_counted_15 : decode cL_counted 15 = .ok (.bipush 9, 2) := by decide +kernel
theorem dL_counted_17 : decode cL_counted 17 = .ok (.if_icmp .ge 43, 3) := by decide +kernel
theorem dL_counted_20 : decode cL_counted 20 = .ok (.iload_n 0, 1) := by decide +kernel
theorem dL_counted_21 : decode cL_counted 21 = .ok (.iconst 4, 1) := by decide +kernel
theorem dL_counted_22 : decode cL_counted 22 = .ok (.if_icmp .ne 9, 3) := by decide +kernel
theorem dL_counted_25 : decode cL_counted 25 = .ok (.aload_n 2, 1) := by decide +kernel
theorem dL_counted_26 : decode cL_counted 26 = .ok (.iconst 3, 1) := by decide +kernel
theorem dL_counted_27 : decode cL_counted 27 = .ok (.iaload, 1) := by decide +kernel
theorem dL_counted_28 : decode cL_counted 28 = .ok (.goto 31, 3) := by decide +kernel
theorem dL_counted_31 : decode cL_counted 31 = .ok (.iload_n 0, 1) := by decide +kernel
theorem dL_counted_32 : decode cL_counted 32 = .ok (.iconst 5, 1) := by decide +kernel
theorem dL_counted_33 : decode cL_counted 33 = .ok (.if_icmp .ne 9, 3) := by decide +kernel
theorem dL_counted_36 : decode cL_counted 36 = .ok (.aload_n 2, 1) := by decide +kernel
theorem dL_counted_37 : decode cL_counted 37 = .ok (.iconst 2, 1) := by decide +kernel
theorem dL_counted_38 : decode cL_counted 38 = .ok (.iaload, 1) := by decide +kernel
theorem dL_counted_39 : decode cL_counted 39 = .ok (.goto 20, 3) := by decide +kernel
theorem dL_counted_42 : decode cL_counted 42 = .ok (.iload_n 0, 1) := by decide +kernel
theorem dL_counted_43 : decode cL_counted 43 = .ok (.bipush 6, 2) := by decide +kernel
theorem dL_counted_45 : decode cL_counted 45 = .ok (.if_icmp .ne 9, 3) := by decide +kernel
theorem dL_counted_48 : decode cL_counted 48 = .ok (.aload_n 2, 1) := by decide +kernel
theorem dL_counted_49 : decode cL_counted 49 = .ok (.iconst 4, 1) := by decide +kernel
theorem dL_counted_50 : decode cL_counted 50 = .ok (.iaload, 1) := by decide +kernel
theorem dL_counted_51 : decode cL_counted 51 = .ok (.goto 8, 3) := by decide +kernel
theorem dL_counted_54 : decode cL_counted 54 = .ok (.aload_n 2, 1) := by decide +kernel
theorem dL_counted_55 : decode cL_counted 55 = .ok (.iload_n 0, 1) := by decide +kernel
theorem dL_counted_56 : decode cL_counted 56 = .ok (.iconst 2, 1) := by decide +kernel
theorem dL_counted_57 : decode cL_counted 57 = .ok (.isub, 1) := by decide +kernel
theorem dL_counted_58 : decode cL_counted 58 = .ok (.iaload, 1) := by decide +kernel
theorem dL_counted_59 : decode cL_counted 59 = .ok (.ireturn, 1) := by decide +kernel
theorem dL_counted_60 : decode cL_counted 60 = .ok (.iconst 0, 1) := by decide +kernel
theorem dL_counted_61 : decode cL_counted 61 = .ok (.istore_n 3, 1) := by decide +kernel
theorem dL_counted_62 : decode cL_counted 62 = .ok (.iconst 0, 1) := by decide +kernel
theorem dL_counted_63 : decode cL_counted 63 = .ok (.istore 4, 2) := by decide +kernel
theorem dL_counted_65 : decode cL_counted 65 = .ok (.iload 4, 2) := by decide +kernel
theorem dL_counted_67 : decode cL_counted 67 = .ok (.aload_n 2, 1) := by decide +kernel
theorem dL_counted_68 : decode cL_counted 68 = .ok (.iconst 1, 1) := by decide +kernel
theorem dL_counted_69 : decode cL_counted 69 = .ok (.iaload, 1) := by decide +kernel
theorem dL_counted_70 : decode cL_counted 70 = .ok (.if_icmp .ge 91, 3) := by decide +kernel
theorem dL_counted_73 : decode cL_counted 73 = .ok (.iload_n 3, 1) := by decide +kernel
theorem dL_counted_74 : decode cL_counted 74 = .ok (.iload_n 0, 1) := by decide +kernel
theorem dL_counted_75 : decode cL_counted 75 = .ok (.iconst 2, 1) := by decide +kernel
theorem dL_counted_76 : decode cL_counted 76 = .ok (.if_icmp .ne 24, 3) := by decide +kernel
theorem dL_counted_79 : decode cL_counted 79 = .ok (.aload_n 1, 1) := by decide +kernel
theorem dL_counted_80 : decode cL_counted 80 = .ok (.bipush 8, 2) := by decide +kernel
theorem dL_counted_82 : decode cL_counted 82 = .ok (.iload 4, 2) := by decide +kernel
theorem dL_counted_84 : decode cL_counted 84 = .ok (.imul, 1) := by decide +kernel
theorem dL_counted_85 : decode cL_counted 85 = .ok (.iconst 4, 1) := by decide +kernel
theorem dL_counted_86 : decode cL_counted 86 = .ok (.iadd, 1) := by decide +kernel
theorem dL_counted_87 : decode cL_counted 87 = .ok (.iaload, 1) := by decide +kernel
theorem dL_counted_88 : decode cL_counted 88 = .ok (.iconst 2, 1) := by decide +kernel
theorem dL_counted_89 : decode cL_counted 89 = .ok (.if_icmp .ge 7, 3) := by decide +kernel
theorem dL_counted_92 : decode cL_counted 92 = .ok (.iconst 1, 1) := by decide +kernel
theorem dL_counted_93 : decode cL_counted 93 = .ok (.goto 60, 3) := by decide +kernel
theorem dL_counted_96 : decode cL_counted 96 = .ok (.iconst 0, 1) := by decide +kernel
theorem dL_counted_97 : decode cL_counted 97 = .ok (.goto 56, 3) := by decide +kernel
theorem dL_counted_100 : decode cL_counted 100 = .ok (.iload_n 0, 1) := by decide +kernel
theorem dL_counted_101 : decode cL_counted 101 = .ok (.iconst 3, 1) := by decide +kernel
theorem dL_counted_102 : decode cL_counted 102 = .ok (.if_icmp .ne 24, 3) := by decide +kernel
theorem dL_counted_105 : decode cL_counted 105 = .ok (.aload_n 1, 1) := by decide +kernel
theorem dL_counted_106 : decode cL_counted 106 = .ok (.bipush 8, 2) := by decide +kernel
theorem dL_counted_108 : decode cL_counted 108 = .ok (.iload 4, 2) := by decide +kernel
theorem dL_counted_110 : decode cL_counted 110 = .ok (.imul, 1) := by decide +kernel
theorem dL_counted_111 : decode cL_counted 111 = .ok (.iconst 4, 1) := by decide +kernel
theorem dL_counted_112 : decode cL_counted 112 = .ok (.iadd, 1) := by decide +kernel
theorem dL_counted_113 : decode cL_counted 113 = .ok (.iaload, 1) := by decide +kernel
theorem dL_counted_114 : decode cL_counted 114 = .ok (.iconst 1, 1) := by decide +kernel
theorem dL_counted_115 : decode cL_counted 115 = .ok (.if_icmp .ne 7, 3) := by decide +kernel
theorem dL_counted_118 : decode cL_counted 118 = .ok (.iconst 1, 1) := by decide +kernel
theorem dL_counted_119 : decode cL_counted 119 = .ok (.goto 34, 3) := by decide +kernel
theorem dL_counted_122 : decode cL_counted 122 = .ok (.iconst 0, 1) := by decide +kernel
theorem dL_counted_123 : decode cL_counted 123 = .ok (.goto 30, 3) := by decide +kernel
theorem dL_counted_126 : decode cL_counted 126 = .ok (.aload_n 1, 1) := by decide +kernel
theorem dL_counted_127 : decode cL_counted 127 = .ok (.bipush 8, 2) := by decide +kernel
theorem dL_counted_129 : decode cL_counted 129 = .ok (.iload 4, 2) := by decide +kernel
theorem dL_counted_131 : decode cL_counted 131 = .ok (.imul, 1) := by decide +kernel
theorem dL_counted_132 : decode cL_counted 132 = .ok (.iaload, 1) := by decide +kernel
theorem dL_counted_133 : decode cL_counted 133 = .ok (.iload_n 0, 1) := by decide +kernel
theorem dL_counted_134 : decode cL_counted 134 = .ok (.bipush 9, 2) := by decide +kernel
theorem dL_counted_136 : decode cL_counted 136 = .ok (.isub, 1) := by decide +kernel
theorem dL_counted_137 : decode cL_counted 137 = .ok (.if_icmp .ne 15, 3) := by decide +kernel
theorem dL_counted_140 : decode cL_counted 140 = .ok (.aload_n 1, 1) := by decide +kernel
theorem dL_counted_141 : decode cL_counted 141 = .ok (.bipush 8, 2) := by decide +kernel
theorem dL_counted_143 : decode cL_counted 143 = .ok (.iload 4, 2) := by decide +kernel
theorem dL_counted_145 : decode cL_counted 145 = .ok (.imul, 1) := by decide +kernel
theorem dL_counted_146 : decode cL_counted 146 = .ok (.iconst 2, 1) := by decide +kernel
theorem dL_counted_147 : decode cL_counted 147 = .ok (.iadd, 1) := by decide +kernel
theorem dL_counted_148 : decode cL_counted 148 = .ok (.iaload, 1) := by decide +kernel
theorem dL_counted_149 : decode cL_counted 149 = .ok (.goto 4, 3) := by decide +kernel
theorem dL_counted_152 : decode cL_counted 152 = .ok (.iconst 0, 1) := by decide +kernel
theorem dL_counted_153 : decode cL_counted 153 = .ok (.iadd, 1) := by decide +kernel
theorem dL_counted_154 : decode cL_counted 154 = .ok (.istore_n 3, 1) := by decide +kernel
theorem dL_counted_155 : decode cL_counted 155 = .ok (.iinc 4 1, 3) := by decide +kernel
theorem dL_counted_158 : decode cL_counted 158 = .ok (.goto (-93), 3) := by decide +kernel
theorem dL_counted_161 : decode cL_counted 161 = .ok (.iload_n 3, 1) := by decide +kernel
theorem dL_counted_162 : decode cL_counted 162 = .ok (.ireturn, 1) := by decide +kernel
theorem dL_told_0 : decode cL_told 0 = .ok (.iconst 0, 1) := by decide +kernel
theorem dL_told_1 : decode cL_told 1 = .ok (.istore 7, 2) := by decide +kernel
theorem dL_told_3 : decode cL_told 3 = .ok (.iconst 0, 1) := by decide +kernel
theorem dL_told_4 : decode cL_told 4 = .ok (.istore 8, 2) := by decide +kernel
theorem dL_told_6 : decode cL_told 6 = .ok (.iload 8, 2) := by decide +kernel
theorem dL_told_8 : decode cL_told 8 = .ok (.aload 6, 2) := by decide +kernel
theorem dL_told_10 : decode cL_told 10 = .ok (.iconst 1, 1) := by decide +kernel
theorem dL_told_11 : decode cL_told 11 = .ok (.iaload, 1) := by decide +kernel
theorem dL_told_12 : decode cL_told 12 = .ok (.if_icmp .ge 192, 3) := by decide +kernel
theorem dL_told_15 : decode cL_told 15 = .ok (.iconst 0, 1) := by decide +kernel
theorem dL_told_16 : decode cL_told 16 = .ok (.istore 9, 2) := by decide +kernel
theorem dL_told_18 : decode cL_told 18 = .ok (.iconst 0, 1) := by decide +kernel
theorem dL_told_19 : decode cL_told 19 = .ok (.istore 10, 2) := by decide +kernel
theorem dL_told_21 : decode cL_told 21 = .ok (.iload 10, 2) := by decide +kernel
theorem dL_told_23 : decode cL_told 23 = .ok (.aload 6, 2) := by decide +kernel
theorem dL_told_25 : decode cL_told 25 = .ok (.iconst 2, 1) := by decide +kernel
theorem dL_told_26 : decode cL_told 26 = .ok (.iaload, 1) := by decide +kernel
theorem dL_told_27 : decode cL_told 27 = .ok (.if_icmp .ge 33, 3) := by decide +kernel
theorem dL_told_30 : decode cL_told 30 = .ok (.iload 9, 2) := by decide +kernel
theorem dL_told_32 : decode cL_told 32 = .ok (.aload 5, 2) := by decide +kernel
theorem dL_told_34 : decode cL_told 34 = .ok (.iconst 4, 1) := by decide +kernel
theorem dL_told_35 : decode cL_told 35 = .ok (.iload 10, 2) := by decide +kernel
theorem dL_told_37 : decode cL_told 37 = .ok (.imul, 1) := by decide +kernel
theorem dL_told_38 : decode cL_told 38 = .ok (.iconst 1, 1) := by decide +kernel
theorem dL_told_39 : decode cL_told 39 = .ok (.iadd, 1) := by decide +kernel
theorem dL_told_40 : decode cL_told 40 = .ok (.iaload, 1) := by decide +kernel
theorem dL_told_41 : decode cL_told 41 = .ok (.iload 8, 2) := by decide +kernel
theorem dL_told_43 : decode cL_told 43 = .ok (.if_icmp .ne 7, 3) := by decide +kernel
theorem dL_told_46 : decode cL_told 46 = .ok (.iconst 1, 1) := by decide +kernel
theorem dL_told_47 : decode cL_told 47 = .ok (.goto 4, 3) := by decide +kernel
theorem dL_told_50 : decode cL_told 50 = .ok (.iconst 0, 1) := by decide +kernel
theorem dL_told_51 : decode cL_told 51 = .ok (.iadd, 1) := by decide +kernel
theorem dL_told_52 : decode cL_told 52 = .ok (.istore 9, 2) := by decide +kernel
theorem dL_told_54 : decode cL_told 54 = .ok (.iinc 10 1, 3) := by decide +kernel
theorem dL_told_57 : decode cL_told 57 = .ok (.goto (-36), 3) := by decide +kernel
theorem dL_told_60 : decode cL_told 60 = .ok (.iconst 0, 1) := by decide +kernel
theorem dL_told_61 : decode cL_told 61 = .ok (.istore 10, 2) := by decide +kernel
theorem dL_told_63 : decode cL_told 63 = .ok (.iload 10, 2) := by decide +kernel
theorem dL_told_65 : decode cL_told 65 = .ok (.bipush 9, 2) := by decide +kernel
theorem dL_told_67 : decode cL_told 67 = .ok (.if_icmp .ge 95, 3) := by decide +kernel
theorem dL_told_70 : decode cL_told 70 = .ok (.aload_n 0, 1) := by decide +kernel
theorem dL_told_71 : decode cL_told 71 = .ok (.iload 8, 2) := by decide +kernel
theorem dL_told_73 : decode cL_told 73 = .ok (.iload 10, 2) := by decide +kernel
theorem dL_told_75 : decode cL_told 75 = .ok (.invokevirtual 41, 3) := by decide +kernel
theorem dL_told_78 : decode cL_told 78 = .ok (.iload 10, 2) := by decide +kernel
theorem dL_told_80 : decode cL_told 80 = .ok (.bipush 7, 2) := by decide +kernel
theorem dL_told_82 : decode cL_told 82 = .ok (.if_icmp .ne 8, 3) := by decide +kernel
theorem dL_told_85 : decode cL_told 85 = .ok (.iload 9, 2) := by decide +kernel
theorem dL_told_87 : decode cL_told 87 = .ok (.goto 64, 3) := by decide +kernel
theorem dL_told_90 : decode cL_told 90 = .ok (.iload 10, 2) := by decide +kernel
theorem dL_told_92 : decode cL_told 92 = .ok (.bipush 8, 2) := by decide +kernel
theorem dL_told_94 : decode cL_told 94 = .ok (.if_icmp .ne 17, 3) := by decide +kernel
theorem dL_told_97 : decode cL_told 97 = .ok (.aload 4, 2) := by decide +kernel
theorem dL_told_99 : decode cL_told 99 = .ok (.bipush 8, 2) := by decide +kernel
theorem dL_told_101 : decode cL_told 101 = .ok (.iload 8, 2) := by decide +kernel
theorem dL_told_103 : decode cL_told 103 = .ok (.imul, 1) := by decide +kernel
theorem dL_told_104 : decode cL_told 104 = .ok (.bipush 7, 2) := by decide +kernel
theorem dL_told_106 : decode cL_told 106 = .ok (.iadd, 1) := by decide +kernel
theorem dL_told_107 : decode cL_told 107 = .ok (.iaload, 1) := by decide +kernel
theorem dL_told_108 : decode cL_told 108 = .ok (.goto 43, 3) := by decide +kernel
theorem dL_told_111 : decode cL_told 111 = .ok (.iload 10, 2) := by decide +kernel
theorem dL_told_113 : decode cL_told 113 = .ok (.iconst 1, 1) := by decide +kernel
theorem dL_told_114 : decode cL_told 114 = .ok (.if_icmp .eq 9, 3) := by decide +kernel
theorem dL_told_117 : decode cL_told 117 = .ok (.iload 10, 2) := by decide +kernel
theorem dL_told_119 : decode cL_told 119 = .ok (.iconst 3, 1) := by decide +kernel
theorem dL_told_120 : decode cL_told 120 = .ok (.if_icmp .ne 20, 3) := by decide +kernel
theorem dL_told_123 : decode cL_told 123 = .ok (.aload 4, 2) := by decide +kernel
theorem dL_told_125 : decode cL_told 125 = .ok (.bipush 8, 2) := by decide +kernel
theorem dL_told_127 : decode cL_told 127 = .ok (.iload 8, 2) := by decide +kernel
theorem dL_told_129 : decode cL_told 129 = .ok (.imul, 1) := by decide +kernel
theorem dL_told_130 : decode cL_told 130 = .ok (.iload 10, 2) := by decide +kernel
theorem dL_told_132 : decode cL_told 132 = .ok (.iadd, 1) := by decide +kernel
theorem dL_told_133 : decode cL_told 133 = .ok (.iaload, 1) := by decide +kernel
theorem dL_told_134 : decode cL_told 134 = .ok (.invokestatic 46, 3) := by decide +kernel
theorem dL_told_137 : decode cL_told 137 = .ok (.goto 14, 3) := by decide +kernel
theorem dL_told_140 : decode cL_told 140 = .ok (.aload 4, 2) := by decide +kernel
theorem dL_told_142 : decode cL_told 142 = .ok (.bipush 8, 2) := by decide +kernel
theorem dL_told_144 : decode cL_told 144 = .ok (.iload 8, 2) := by decide +kernel
theorem dL_told_146 : decode cL_told 146 = .ok (.imul, 1) := by decide +kernel
theorem dL_told_147 : decode cL_told 147 = .ok (.iload 10, 2) := by decide +kernel
theorem dL_told_149 : decode cL_told 149 = .ok (.iadd, 1) := by decide +kernel
theorem dL_told_150 : decode cL_told 150 = .ok (.iaload, 1) := by decide +kernel
theorem dL_told_151 : decode cL_told 151 = .ok (.if_icmp .eq 5, 3) := by decide +kernel
theorem dL_told_154 : decode cL_told 154 = .ok (.iconst 0, 1) := by decide +kernel
theorem dL_told_155 : decode cL_told 155 = .ok (.ireturn, 1) := by decide +kernel
theorem dL_told_156 : decode cL_told 156 = .ok (.iinc 10 1, 3) := by decide +kernel
theorem dL_told_159 : decode cL_told 159 = .ok (.goto (-96), 3) := by decide +kernel
theorem dL_told_162 : decode cL_told 162 = .ok (.aload_n 0, 1) := by decide +kernel
theorem dL_told_163 : decode cL_told 163 = .ok (.iload 8, 2) := by decide +kernel
theorem dL_told_165 : decode cL_told 165 = .ok (.invokevirtual 49, 3) := by decide +kernel
theorem dL_told_168 : decode cL_told 168 = .ok (.iload 8, 2) := by decide +kernel
theorem dL_told_170 : decode cL_told 170 = .ok (.aload_n 3, 1) := by decide +kernel
theorem dL_told_171 : decode cL_told 171 = .ok (.aload 4, 2) := by decide +kernel
theorem dL_told_173 : decode cL_told 173 = .ok (.aload 6, 2) := by decide +kernel
theorem dL_told_175 : decode cL_told 175 = .ok (.invokestatic 52, 3) := by decide +kernel
theorem dL_told_178 : decode cL_told 178 = .ok (.if_icmp .eq 5, 3) := by decide +kernel
theorem dL_told_181 : decode cL_told 181 = .ok (.iconst 0, 1) := by decide +kernel
theorem dL_told_182 : decode cL_told 182 = .ok (.ireturn, 1) := by decide +kernel
theorem dL_told_183 : decode cL_told 183 = .ok (.iload 7, 2) := by decide +kernel
theorem dL_told_185 : decode cL_told 185 = .ok (.aload 4, 2) := by decide +kernel
theorem dL_told_187 : decode cL_told 187 = .ok (.bipush 8, 2) := by decide +kernel
theorem dL_told_189 : decode cL_told 189 = .ok (.iload 8, 2) := by decide +kernel
theorem dL_told_191 : decode cL_told 191 = .ok (.imul, 1) := by decide +kernel
theorem dL_told_192 : decode cL_told 192 = .ok (.iconst 5, 1) := by decide +kernel
theorem dL_told_193 : decode cL_told 193 = .ok (.iadd, 1) := by decide +kernel
theorem dL_told_194 : decode cL_told 194 = .ok (.iaload, 1) := by decide +kernel
theorem dL_told_195 : decode cL_told 195 = .ok (.iadd, 1) := by decide +kernel
theorem dL_told_196 : decode cL_told 196 = .ok (.istore 7, 2) := by decide +kernel
theorem dL_told_198 : decode cL_told 198 = .ok (.iinc 8 1, 3) := by decide +kernel
theorem dL_told_201 : decode cL_told 201 = .ok (.goto (-195), 3) := by decide +kernel
theorem dL_told_204 : decode cL_told 204 = .ok (.iconst 0, 1) := by decide +kernel
theorem dL_told_205 : decode cL_told 205 = .ok (.istore 8, 2) := by decide +kernel
theorem dL_told_207 : decode cL_told 207 = .ok (.iconst 0, 1) := by decide +kernel
theorem dL_told_208 : decode cL_told 208 = .ok (.istore 9, 2) := by decide +kernel
theorem dL_told_210 : decode cL_told 210 = .ok (.iload 9, 2) := by decide +kernel
theorem dL_told_212 : decode cL_told 212 = .ok (.aload 6, 2) := by decide +kernel
theorem dL_told_214 : decode cL_told 214 = .ok (.iconst 2, 1) := by decide +kernel
theorem dL_told_215 : decode cL_told 215 = .ok (.iaload, 1) := by decide +kernel
theorem dL_told_216 : decode cL_told 216 = .ok (.if_icmp .ge 138, 3) := by decide +kernel
theorem dL_told_219 : decode cL_told 219 = .ok (.iconst (-1), 1) := by decide +kernel
theorem dL_told_220 : decode cL_told 220 = .ok (.istore 10, 2) := by decide +kernel
theorem dL_told_222 : decode cL_told 222 = .ok (.iconst 0, 1) := by decide +kernel
theorem dL_told_223 : decode cL_told 223 = .ok (.istore 11, 2) := by decide +kernel
theorem dL_told_225 : decode cL_told 225 = .ok (.iload 11, 2) := by decide +kernel
theorem dL_told_227 : decode cL_told 227 = .ok (.aload 6, 2) := by decide +kernel
theorem dL_told_229 : decode cL_told 229 = .ok (.iconst 2, 1) := by decide +kernel
theorem dL_told_230 : decode cL_told 230 = .ok (.iaload, 1) := by decide +kernel
theorem dL_told_231 : decode cL_told 231 = .ok (.if_icmp .ge 49, 3) := by decide +kernel
theorem dL_told_234 : decode cL_told 234 = .ok (.iload 8, 2) := by decide +kernel
theorem dL_told_236 : decode cL_told 236 = .ok (.iload 11, 2) := by decide +kernel
theorem dL_told_238 : decode cL_told 238 = .ok (.ishr, 1) := by decide +kernel
theorem dL_told_239 : decode cL_told 239 = .ok (.iconst 1, 1) := by decide +kernel
theorem dL_told_240 : decode cL_told 240 = .ok (.iand, 1) := by decide +kernel
theorem dL_told_241 : decode cL_told 241 = .ok (.ifCond .ne 33, 3) := by decide +kernel
theorem dL_told_244 : decode cL_told 244 = .ok (.iload 10, 2) := by decide +kernel
theorem dL_told_246 : decode cL_told 246 = .ok (.ifCond .lt 24, 3) := by decide +kernel
theorem dL_told_249 : decode cL_told 249 = .ok (.aload 5, 2) := by decide +kernel
theorem dL_told_251 : decode cL_told 251 = .ok (.iconst 4, 1) := by decide +kernel
theorem dL_told_252 : decode cL_told 252 = .ok (.iload 11, 2) := by decide +kernel
theorem dL_told_254 : decode cL_told 254 = .ok (.imul, 1) := by decide +kernel
theorem dL_told_255 : decode cL_told 255 = .ok (.iconst 3, 1) := by decide +kernel
theorem dL_told_256 : decode cL_told 256 = .ok (.iadd, 1) := by decide +kernel
theorem dL_told_257 : decode cL_told 257 = .ok (.iaload, 1) := by decide +kernel
theorem dL_told_258 : decode cL_told 258 = .ok (.aload 5, 2) := by decide +kernel
theorem dL_told_260 : decode cL_told 260 = .ok (.iconst 4, 1) := by decide +kernel
theorem dL_told_261 : decode cL_told 261 = .ok (.iload 10, 2) := by decide +kernel
theorem dL_told_263 : decode cL_told 263 = .ok (.imul, 1) := by decide +kernel
theorem dL_told_264 : decode cL_told 264 = .ok (.iconst 3, 1) := by decide +kernel
theorem dL_told_265 : decode cL_told 265 = .ok (.iadd, 1) := by decide +kernel
theorem dL_told_266 : decode cL_told 266 = .ok (.iaload, 1) := by decide +kernel
theorem dL_told_267 : decode cL_told 267 = .ok (.if_icmp .ge 7, 3) := by decide +kernel
theorem dL_told_270 : decode cL_told 270 = .ok (.iload 11, 2) := by decide +kernel
theorem dL_told_272 : decode cL_told 272 = .ok (.istore 10, 2) := by decide +kernel
theorem dL_told_274 : decode cL_told 274 = .ok (.iinc 11 1, 3) := by decide +kernel
theorem dL_told_277 : decode cL_told 277 = .ok (.goto (-52), 3) := by decide +kernel
theorem dL_told_280 : decode cL_told 280 = .ok (.iload 8, 2) := by decide +kernel
theorem dL_told_282 : decode cL_told 282 = .ok (.iconst 1, 1) := by decide +kernel
theorem dL_told_283 : decode cL_told 283 = .ok (.iload 10, 2) := by decide +kernel
theorem dL_told_285 : decode cL_told 285 = .ok (.ishl, 1) := by decide +kernel
theorem dL_told_286 : decode cL_told 286 = .ok (.ior, 1) := by decide +kernel
theorem dL_told_287 : decode cL_told 287 = .ok (.istore 8, 2) := by decide +kernel
theorem dL_told_289 : decode cL_told 289 = .ok (.iconst 0, 1) := by decide +kernel
theorem dL_told_290 : decode cL_told 290 = .ok (.istore 11, 2) := by decide +kernel
theorem dL_told_292 : decode cL_told 292 = .ok (.iload 11, 2) := by decide +kernel
theorem dL_told_294 : decode cL_told 294 = .ok (.iconst 4, 1) := by decide +kernel
theorem dL_told_295 : decode cL_told 295 = .ok (.if_icmp .ge 53, 3) := by decide +kernel
theorem dL_told_298 : decode cL_told 298 = .ok (.aload_n 0, 1) := by decide +kernel
theorem dL_told_299 : decode cL_told 299 = .ok (.iload 9, 2) := by decide +kernel
theorem dL_told_301 : decode cL_told 301 = .ok (.iload 11, 2) := by decide +kernel
theorem dL_told_303 : decode cL_told 303 = .ok (.invokevirtual 55, 3) := by decide +kernel
theorem dL_told_306 : decode cL_told 306 = .ok (.iload 11, 2) := by decide +kernel
theorem dL_told_308 : decode cL_told 308 = .ok (.iconst 2, 1) := by decide +kernel
theorem dL_told_309 : decode cL_told 309 = .ok (.if_icmp .ne 18, 3) := by decide +kernel
theorem dL_told_312 : decode cL_told 312 = .ok (.aload 5, 2) := by decide +kernel
theorem dL_told_314 : decode cL_told 314 = .ok (.iconst 4, 1) := by decide +kernel
theorem dL_told_315 : decode cL_told 315 = .ok (.iload 10, 2) := by decide +kernel
theorem dL_told_317 : decode cL_told 317 = .ok (.imul, 1) := by decide +kernel
theorem dL_told_318 : decode cL_told 318 = .ok (.iconst 2, 1) := by decide +kernel
theorem dL_told_319 : decode cL_told 319 = .ok (.iadd, 1) := by decide +kernel
theorem dL_told_320 : decode cL_told 320 = .ok (.iaload, 1) := by decide +kernel
theorem dL_told_321 : decode cL_told 321 = .ok (.invokestatic 46, 3) := by decide +kernel
theorem dL_told_324 : decode cL_told 324 = .ok (.goto 13, 3) := by decide +kernel
theorem dL_told_327 : decode cL_told 327 = .ok (.aload 5, 2) := by decide +kernel
theorem dL_told_329 : decode cL_told 329 = .ok (.iconst 4, 1) := by decide +kernel
theorem dL_told_330 : decode cL_told 330 = .ok (.iload 10, 2) := by decide +kernel
theorem dL_told_332 : decode cL_told 332 = .ok (.imul, 1) := by decide +kernel
theorem dL_told_333 : decode cL_told 333 = .ok (.iload 11, 2) := by decide +kernel
theorem dL_told_335 : decode cL_told 335 = .ok (.iadd, 1) := by decide +kernel
theorem dL_told_336 : decode cL_told 336 = .ok (.iaload, 1) := by decide +kernel
theorem dL_told_337 : decode cL_told 337 = .ok (.if_icmp .eq 5, 3) := by decide +kernel
theorem dL_told_340 : decode cL_told 340 = .ok (.iconst 0, 1) := by decide +kernel
theorem dL_told_341 : decode cL_told 341 = .ok (.ireturn, 1) := by decide +kernel
theorem dL_told_342 : decode cL_told 342 = .ok (.iinc 11 1, 3) := by decide +kernel
theorem dL_told_345 : decode cL_told 345 = .ok (.goto (-53), 3) := by decide +kernel
theorem dL_told_348 : decode cL_told 348 = .ok (.iinc 9 1, 3) := by decide +kernel
theorem dL_told_351 : decode cL_told 351 = .ok (.goto (-141), 3) := by decide +kernel
theorem dL_told_354 : decode cL_told 354 = .ok (.iconst 0, 1) := by decide +kernel
theorem dL_told_355 : decode cL_told 355 = .ok (.istore 9, 2) := by decide +kernel
theorem dL_told_357 : decode cL_told 357 = .ok (.iload 9, 2) := by decide +kernel
theorem dL_told_359 : decode cL_told 359 = .ok (.bipush 11, 2) := by decide +kernel
theorem dL_told_361 : decode cL_told 361 = .ok (.if_icmp .ge 29, 3) := by decide +kernel
theorem dL_told_364 : decode cL_told 364 = .ok (.aload_n 0, 1) := by decide +kernel
theorem dL_told_365 : decode cL_told 365 = .ok (.iload 9, 2) := by decide +kernel
theorem dL_told_367 : decode cL_told 367 = .ok (.invokevirtual 58, 3) := by decide +kernel
theorem dL_told_370 : decode cL_told 370 = .ok (.iload 9, 2) := by decide +kernel
theorem dL_told_372 : decode cL_told 372 = .ok (.aload 4, 2) := by decide +kernel
theorem dL_told_374 : decode cL_told 374 = .ok (.aload 6, 2) := by decide +kernel
theorem dL_told_376 : decode cL_told 376 = .ok (.invokestatic 61, 3) := by decide +kernel
theorem dL_told_379 : decode cL_told 379 = .ok (.if_icmp .eq 5, 3) := by decide +kernel
theorem dL_told_382 : decode cL_told 382 = .ok (.iconst 0, 1) := by decide +kernel
theorem dL_told_383 : decode cL_told 383 = .ok (.ireturn, 1) := by decide +kernel
theorem dL_told_384 : decode cL_told 384 = .ok (.iinc 9 1, 3) := by decide +kernel
theorem dL_told_387 : decode cL_told 387 = .ok (.goto (-30), 3) := by decide +kernel
theorem dL_told_390 : decode cL_told 390 = .ok (.iload_n 1, 1) := by decide +kernel
theorem dL_told_391 : decode cL_told 391 = .ok (.bipush 64, 2) := by decide +kernel
theorem dL_told_393 : decode cL_told 393 = .ok (.invokestatic 64, 3) := by decide +kernel
theorem dL_told_396 : decode cL_told 396 = .ok (.istore 9, 2) := by decide +kernel
theorem dL_told_398 : decode cL_told 398 = .ok (.iload_n 2, 1) := by decide +kernel
theorem dL_told_399 : decode cL_told 399 = .ok (.bipush 64, 2) := by decide +kernel
theorem dL_told_401 : decode cL_told 401 = .ok (.invokestatic 64, 3) := by decide +kernel
theorem dL_told_404 : decode cL_told 404 = .ok (.istore 10, 2) := by decide +kernel
theorem dL_told_406 : decode cL_told 406 = .ok (.bipush 64, 2) := by decide +kernel
theorem dL_told_408 : decode cL_told 408 = .ok (.newarray .int, 2) := by decide +kernel
theorem dL_told_410 : decode cL_told 410 = .ok (.astore 11, 2) := by decide +kernel
theorem dL_told_412 : decode cL_told 412 = .ok (.iload 9, 2) := by decide +kernel
theorem dL_told_414 : decode cL_told 414 = .ok (.iconst (-1), 1) := by decide +kernel
theorem dL_told_415 : decode cL_told 415 = .ok (.aload 11, 2) := by decide +kernel
theorem dL_told_417 : decode cL_told 417 = .ok (.aload_n 3, 1) := by decide +kernel
theorem dL_told_418 : decode cL_told 418 = .ok (.aload 4, 2) := by decide +kernel
theorem dL_told_420 : decode cL_told 420 = .ok (.aload 6, 2) := by decide +kernel
theorem dL_told_422 : decode cL_told 422 = .ok (.invokestatic 33, 3) := by decide +kernel
theorem dL_told_425 : decode cL_told 425 = .ok (.iconst 0, 1) := by decide +kernel
theorem dL_told_426 : decode cL_told 426 = .ok (.istore 12, 2) := by decide +kernel
theorem dL_told_428 : decode cL_told 428 = .ok (.iconst 0, 1) := by decide +kernel
theorem dL_told_429 : decode cL_told 429 = .ok (.istore 13, 2) := by decide +kernel
theorem dL_told_431 : decode cL_told 431 = .ok (.iload 13, 2) := by decide +kernel
theorem dL_told_433 : decode cL_told 433 = .ok (.iconst 4, 1) := by decide +kernel
theorem dL_told_434 : decode cL_told 434 = .ok (.if_icmp .ge 30, 3) := by decide +kernel
theorem dL_told_437 : decode cL_told 437 = .ok (.iload 12, 2) := by decide +kernel
theorem dL_told_439 : decode cL_told 439 = .ok (.iload 9, 2) := by decide +kernel
theorem dL_told_441 : decode cL_told 441 = .ok (.iload 13, 2) := by decide +kernel
theorem dL_told_443 : decode cL_told 443 = .ok (.aload_n 3, 1) := by decide +kernel
theorem dL_told_444 : decode cL_told 444 = .ok (.invokestatic 21, 3) := by decide +kernel
theorem dL_told_447 : decode cL_told 447 = .ok (.ifCond .lt 7, 3) := by decide +kernel
theorem dL_told_450 : decode cL_told 450 = .ok (.iconst 1, 1) := by decide +kernel
theorem dL_told_451 : decode cL_told 451 = .ok (.goto 4, 3) := by decide +kernel
theorem dL_told_454 : decode cL_told 454 = .ok (.iconst 0, 1) := by decide +kernel
theorem dL_told_455 : decode cL_told 455 = .ok (.iadd, 1) := by decide +kernel
theorem dL_told_456 : decode cL_told 456 = .ok (.istore 12, 2) := by decide +kernel
theorem dL_told_458 : decode cL_told 458 = .ok (.iinc 13 1, 3) := by decide +kernel
theorem dL_told_461 : decode cL_told 461 = .ok (.goto (-30), 3) := by decide +kernel
theorem dL_told_464 : decode cL_told 464 = .ok (.aload_n 0, 1) := by decide +kernel
theorem dL_told_465 : decode cL_told 465 = .ok (.iload 9, 2) := by decide +kernel
theorem dL_told_467 : decode cL_told 467 = .ok (.invokestatic 46, 3) := by decide +kernel
theorem dL_told_470 : decode cL_told 470 = .ok (.iload 10, 2) := by decide +kernel
theorem dL_told_472 : decode cL_told 472 = .ok (.invokestatic 46, 3) := by decide +kernel
theorem dL_told_475 : decode cL_told 475 = .ok (.invokevirtual 67, 3) := by decide +kernel
theorem dL_told_478 : decode cL_told 478 = .ok (.iload 9, 2) := by decide +kernel
theorem dL_told_480 : decode cL_told 480 = .ok (.iload 10, 2) := by decide +kernel
theorem dL_told_482 : decode cL_told 482 = .ok (.aload_n 3, 1) := by decide +kernel
theorem dL_told_483 : decode cL_told 483 = .ok (.invokestatic 29, 3) := by decide +kernel
theorem dL_told_486 : decode cL_told 486 = .ok (.if_icmp .ne 94, 3) := by decide +kernel
theorem dL_told_489 : decode cL_told 489 = .ok (.aload_n 0, 1) := by decide +kernel
theorem dL_told_490 : decode cL_told 490 = .ok (.iload 9, 2) := by decide +kernel
theorem dL_told_492 : decode cL_told 492 = .ok (.invokestatic 46, 3) := by decide +kernel
theorem dL_told_495 : decode cL_told 495 = .ok (.iload 10, 2) := by decide +kernel
theorem dL_told_497 : decode cL_told 497 = .ok (.invokestatic 46, 3) := by decide +kernel
theorem dL_told_500 : decode cL_told 500 = .ok (.invokevirtual 70, 3) := by decide +kernel
theorem dL_told_503 : decode cL_told 503 = .ok (.aload 11, 2) := by decide +kernel
theorem dL_told_505 : decode cL_told 505 = .ok (.iload 10, 2) := by decide +kernel
theorem dL_told_507 : decode cL_told 507 = .ok (.iaload, 1) := by decide +kernel
theorem dL_told_508 : decode cL_told 508 = .ok (.sipush 999, 3) := by decide +kernel
theorem dL_told_511 : decode cL_told 511 = .ok (.if_icmp .ne 7, 3) := by decide +kernel
theorem dL_told_514 : decode cL_told 514 = .ok (.iconst (-1), 1) := by decide +kernel
theorem dL_told_515 : decode cL_told 515 = .ok (.goto 8, 3) := by decide +kernel
theorem dL_told_518 : decode cL_told 518 = .ok (.aload 11, 2) := by decide +kernel
theorem dL_told_520 : decode cL_told 520 = .ok (.iload 10, 2) := by decide +kernel
theorem dL_told_522 : decode cL_told 522 = .ok (.iaload, 1) := by decide +kernel
theorem dL_told_523 : decode cL_told 523 = .ok (.if_icmp .ne 57, 3) := by decide +kernel
theorem dL_told_526 : decode cL_told 526 = .ok (.aload_n 0, 1) := by decide +kernel
theorem dL_told_527 : decode cL_told 527 = .ok (.iload 9, 2) := by decide +kernel
theorem dL_told_529 : decode cL_told 529 = .ok (.invokestatic 46, 3) := by decide +kernel
theorem dL_told_532 : decode cL_told 532 = .ok (.iconst 0, 1) := by decide +kernel
theorem dL_told_533 : decode cL_told 533 = .ok (.invokevirtual 73, 3) := by decide +kernel
theorem dL_told_536 : decode cL_told 536 = .ok (.aload_n 3, 1) := by decide +kernel
theorem dL_told_537 : decode cL_told 537 = .ok (.iload 9, 2) := by decide +kernel
theorem dL_told_539 : decode cL_told 539 = .ok (.iaload, 1) := by decide +kernel
theorem dL_told_540 : decode cL_told 540 = .ok (.if_icmp .ne 40, 3) := by decide +kernel
theorem dL_told_543 : decode cL_told 543 = .ok (.aload_n 0, 1) := by decide +kernel
theorem dL_told_544 : decode cL_told 544 = .ok (.iload 9, 2) := by decide +kernel
theorem dL_told_546 : decode cL_told 546 = .ok (.invokestatic 46, 3) := by decide +kernel
theorem dL_told_549 : decode cL_told 549 = .ok (.iconst 1, 1) := by decide +kernel
theorem dL_told_550 : decode cL_told 550 = .ok (.invokevirtual 73, 3) := by decide +kernel
theorem dL_told_553 : decode cL_told 553 = .ok (.iload 9, 2) := by decide +kernel
theorem dL_told_555 : decode cL_told 555 = .ok (.aload 4, 2) := by decide +kernel
theorem dL_told_557 : decode cL_told 557 = .ok (.aload 6, 2) := by decide +kernel
theorem dL_told_559 : decode cL_told 559 = .ok (.invokestatic 25, 3) := by decide +kernel
theorem dL_told_562 : decode cL_told 562 = .ok (.if_icmp .ne 18, 3) := by decide +kernel
theorem dL_told_565 : decode cL_told 565 = .ok (.aload_n 0, 1) := by decide +kernel
theorem dL_told_566 : decode cL_told 566 = .ok (.iload 9, 2) := by decide +kernel
theorem dL_told_568 : decode cL_told 568 = .ok (.invokestatic 46, 3) := by decide +kernel
theorem dL_told_571 : decode cL_told 571 = .ok (.iconst 2, 1) := by decide +kernel
theorem dL_told_572 : decode cL_told 572 = .ok (.invokevirtual 73, 3) := by decide +kernel
theorem dL_told_575 : decode cL_told 575 = .ok (.iload 12, 2) := by decide +kernel
theorem dL_told_577 : decode cL_told 577 = .ok (.if_icmp .eq 5, 3) := by decide +kernel
theorem dL_told_580 : decode cL_told 580 = .ok (.iconst 0, 1) := by decide +kernel
theorem dL_told_581 : decode cL_told 581 = .ok (.ireturn, 1) := by decide +kernel
theorem dL_told_582 : decode cL_told 582 = .ok (.bipush 9, 2) := by decide +kernel
theorem dL_told_584 : decode cL_told 584 = .ok (.aload 4, 2) := by decide +kernel
theorem dL_told_586 : decode cL_told 586 = .ok (.aload 6, 2) := by decide +kernel
theorem dL_told_588 : decode cL_told 588 = .ok (.invokestatic 61, 3) := by decide +kernel
theorem dL_told_591 : decode cL_told 591 = .ok (.bipush 10, 2) := by decide +kernel
theorem dL_told_593 : decode cL_told 593 = .ok (.aload 4, 2) := by decide +kernel
theorem dL_told_595 : decode cL_told 595 = .ok (.aload 6, 2) := by decide +kernel
theorem dL_told_597 : decode cL_told 597 = .ok (.invokestatic 61, 3) := by decide +kernel
theorem dL_told_600 : decode cL_told 600 = .ok (.iadd, 1) := by decide +kernel
theorem dL_told_601 : decode cL_told 601 = .ok (.istore 13, 2) := by decide +kernel
theorem dL_told_603 : decode cL_told 603 = .ok (.aload_n 0, 1) := by decide +kernel
theorem dL_told_604 : decode cL_told 604 = .ok (.bipush 11, 2) := by decide +kernel
theorem dL_told_606 : decode cL_told 606 = .ok (.invokevirtual 58, 3) := by decide +kernel
theorem dL_told_609 : decode cL_told 609 = .ok (.aload 6, 2) := by decide +kernel
theorem dL_told_611 : decode cL_told 611 = .ok (.bipush 7, 2) := by decide +kernel
theorem dL_told_613 : decode cL_told 613 = .ok (.iaload, 1) := by decide +kernel
theorem dL_told_614 : decode cL_told 614 = .ok (.invokestatic 46, 3) := by decide +kernel
theorem dL_told_617 : decode cL_told 617 = .ok (.if_icmp .ne 50, 3) := by decide +kernel
theorem dL_told_620 : decode cL_told 620 = .ok (.aload_n 0, 1) := by decide +kernel
theorem dL_told_621 : decode cL_told 621 = .ok (.bipush 12, 2) := by decide +kernel
theorem dL_told_623 : decode cL_told 623 = .ok (.invokevirtual 58, 3) := by decide +kernel
theorem dL_told_626 : decode cL_told 626 = .ok (.aload 6, 2) := by decide +kernel
theorem dL_told_628 : decode cL_told 628 = .ok (.bipush 8, 2) := by decide +kernel
theorem dL_told_630 : decode cL_told 630 = .ok (.iaload, 1) := by decide +kernel
theorem dL_told_631 : decode cL_told 631 = .ok (.invokestatic 46, 3) := by decide +kernel
theorem dL_told_634 : decode cL_told 634 = .ok (.if_icmp .ne 33, 3) := by decide +kernel
theorem dL_told_637 : decode cL_told 637 = .ok (.aload_n 0, 1) := by decide +kernel
theorem dL_told_638 : decode cL_told 638 = .ok (.invokevirtual 76, 3) := by decide +kernel
theorem dL_told_641 : decode cL_told 641 = .ok (.iload 7, 2) := by decide +kernel
theorem dL_told_643 : decode cL_told 643 = .ok (.ifCond .ne 7, 3) := by decide +kernel
theorem dL_told_646 : decode cL_told 646 = .ok (.dconst 1, 1) := by decide +kernel
theorem dL_told_647 : decode cL_told 647 = .ok (.goto 12, 3) := by decide +kernel
theorem dL_told_650 : decode cL_told 650 = .ok (.dconst 1, 1) := by decide +kernel
theorem dL_told_651 : decode cL_told 651 = .ok (.iload 13, 2) := by decide +kernel
theorem dL_told_653 : decode cL_told 653 = .ok (.i2d, 1) := by decide +kernel
theorem dL_told_654 : decode cL_told 654 = .ok (.dmul, 1) := by decide +kernel
theorem dL_told_655 : decode cL_told 655 = .ok (.iload 7, 2) := by decide +kernel
theorem dL_told_657 : decode cL_told 657 = .ok (.i2d, 1) := by decide +kernel
theorem dL_told_658 : decode cL_told 658 = .ok (.ddiv, 1) := by decide +kernel
theorem dL_told_659 : decode cL_told 659 = .ok (.dcmp .l, 1) := by decide +kernel
theorem dL_told_660 : decode cL_told 660 = .ok (.ifCond .ne 7, 3) := by decide +kernel
theorem dL_told_663 : decode cL_told 663 = .ok (.iconst 1, 1) := by decide +kernel
theorem dL_told_664 : decode cL_told 664 = .ok (.goto 4, 3) := by decide +kernel
theorem dL_told_667 : decode cL_told 667 = .ok (.iconst 0, 1) := by decide +kernel
theorem dL_told_668 : decode cL_told 668 = .ok (.ireturn, 1) := by decide +kernel
theorem dL_ahead_0 : decode cL_ahead 0 = .ok (.bipush 48, 2) := by decide +kernel
theorem dL_ahead_2 : decode cL_ahead 2 = .ok (.newarray .int, 2) := by decide +kernel
theorem dL_ahead_4 : decode cL_ahead 4 = .ok (.astore 7, 2) := by decide +kernel
theorem dL_ahead_6 : decode cL_ahead 6 = .ok (.bipush 48, 2) := by decide +kernel
theorem dL_ahead_8 : decode cL_ahead 8 = .ok (.newarray .int, 2) := by decide +kernel
theorem dL_ahead_10 : decode cL_ahead 10 = .ok (.astore 8, 2) := by decide +kernel
theorem dL_ahead_12 : decode cL_ahead 12 = .ok (.bipush 9, 2) := by decide +kernel
theorem dL_ahead_14 : decode cL_ahead 14 = .ok (.newarray .int, 2) := by decide +kernel
theorem dL_ahead_16 : decode cL_ahead 16 = .ok (.astore 9, 2) := by decide +kernel
theorem dL_ahead_18 : decode cL_ahead 18 = .ok (.iconst 0, 1) := by decide +kernel
theorem dL_ahead_19 : decode cL_ahead 19 = .ok (.istore 10, 2) := by decide +kernel
theorem dL_ahead_21 : decode cL_ahead 21 = .ok (.iload 10, 2) := by decide +kernel
theorem dL_ahead_23 : decode cL_ahead 23 = .ok (.iconst 2, 1) := by decide +kernel
theorem dL_ahead_24 : decode cL_ahead 24 = .ok (.if_icmp .ge 260, 3) := by decide +kernel
theorem dL_ahead_27 : decode cL_ahead 27 = .ok (.aload 6, 2) := by decide +kernel
theorem dL_ahead_29 : decode cL_ahead 29 = .ok (.iconst 1, 1) := by decide +kernel
theorem dL_ahead_30 : decode cL_ahead 30 = .ok (.iaload, 1) := by decide +kernel
theorem dL_ahead_31 : decode cL_ahead 31 = .ok (.ifCond .ne 5, 3) := by decide +kernel
end
section
theorem dL_ahead_34 : decode cL_ahead 34 = .ok (.iconst 1, 1) := by decide +kernel
theorem dL_ahead_35 : decode cL_ahead 35 = .ok (.ireturn, 1) := by decide +kernel
theorem dL_ahead_36 : decode cL_ahead 36 = .ok (.iconst 0, 1) := by decide +kernel
theorem dL_ahead_37 : decode cL_ahead 37 = .ok (.istore 11, 2) := by decide +kernel
theorem dL_ahead_39 : decode cL_ahead 39 = .ok (.iload 11, 2) := by decide +kernel
theorem dL_ahead_41 : decode cL_ahead 41 = .ok (.bipush 48, 2) := by decide +kernel
theorem dL_ahead_43 : decode cL_ahead 43 = .ok (.if_icmp .ge 46, 3) := by decide +kernel
theorem dL_ahead_46 : decode cL_ahead 46 = .ok (.aload 7, 2) := by decide +kernel
theorem dL_ahead_48 : decode cL_ahead 48 = .ok (.iload 11, 2) := by decide +kernel
theorem dL_ahead_50 : decode cL_ahead 50 = .ok (.aload 4, 2) := by decide +kernel
theorem dL_ahead_52 : decode cL_ahead 52 = .ok (.iload 11, 2) := by decide +kernel
theorem dL_ahead_54 : decode cL_ahead 54 = .ok (.iaload, 1) := by decide +kernel
theorem dL_ahead_55 : decode cL_ahead 55 = .ok (.iastore, 1) := by decide +kernel
theorem dL_ahead_56 : decode cL_ahead 56 = .ok (.aload 8, 2) := by decide +kernel
theorem dL_ahead_58 : decode cL_ahead 58 = .ok (.iload 11, 2) := by decide +kernel
theorem dL_ahead_60 : decode cL_ahead 60 = .ok (.aload 5, 2) := by decide +kernel
theorem dL_ahead_62 : decode cL_ahead 62 = .ok (.iload 11, 2) := by decide +kernel
theorem dL_ahead_64 : decode cL_ahead 64 = .ok (.iaload, 1) := by decide +kernel
theorem dL_ahead_65 : decode cL_ahead 65 = .ok (.iastore, 1) := by decide +kernel
theorem dL_ahead_66 : decode cL_ahead 66 = .ok (.iload 11, 2) := by decide +kernel
theorem dL_ahead_68 : decode cL_ahead 68 = .ok (.bipush 9, 2) := by decide +kernel
theorem dL_ahead_70 : decode cL_ahead 70 = .ok (.if_icmp .ge 13, 3) := by decide +kernel
theorem dL_ahead_73 : decode cL_ahead 73 = .ok (.aload 9, 2) := by decide +kernel
theorem dL_ahead_75 : decode cL_ahead 75 = .ok (.iload 11, 2) := by decide +kernel
theorem dL_ahead_77 : decode cL_ahead 77 = .ok (.aload 6, 2) := by decide +kernel
theorem dL_ahead_79 : decode cL_ahead 79 = .ok (.iload 11, 2) := by decide +kernel
theorem dL_ahead_81 : decode cL_ahead 81 = .ok (.iaload, 1) := by decide +kernel
theorem dL_ahead_82 : decode cL_ahead 82 = .ok (.iastore, 1) := by decide +kernel
theorem dL_ahead_83 : decode cL_ahead 83 = .ok (.iinc 11 1, 3) := by decide +kernel
theorem dL_ahead_86 : decode cL_ahead 86 = .ok (.goto (-47), 3) := by decide +kernel
theorem dL_ahead_89 : decode cL_ahead 89 = .ok (.iload 10, 2) := by decide +kernel
theorem dL_ahead_91 : decode cL_ahead 91 = .ok (.ifCond .ne 88, 3) := by decide +kernel
theorem dL_ahead_94 : decode cL_ahead 94 = .ok (.iconst 1, 1) := by decide +kernel
theorem dL_ahead_95 : decode cL_ahead 95 = .ok (.iload_n 1, 1) := by decide +kernel
theorem dL_ahead_96 : decode cL_ahead 96 = .ok (.bipush 12, 2) := by decide +kernel
theorem dL_ahead_98 : decode cL_ahead 98 = .ok (.invokestatic 64, 3) := by decide +kernel
theorem dL_ahead_101 : decode cL_ahead 101 = .ok (.iadd, 1) := by decide +kernel
theorem dL_ahead_102 : decode cL_ahead 102 = .ok (.istore 11, 2) := by decide +kernel
theorem dL_ahead_104 : decode cL_ahead 104 = .ok (.iload_n 2, 1) := by decide +kernel
theorem dL_ahead_105 : decode cL_ahead 105 = .ok (.bipush 7, 2) := by decide +kernel
theorem dL_ahead_107 : decode cL_ahead 107 = .ok (.invokestatic 64, 3) := by decide +kernel
theorem dL_ahead_110 : decode cL_ahead 110 = .ok (.istore 12, 2) := by decide +kernel
theorem dL_ahead_112 : decode cL_ahead 112 = .ok (.iload 12, 2) := by decide +kernel
theorem dL_ahead_114 : decode cL_ahead 114 = .ok (.iconst 2, 1) := by decide +kernel
theorem dL_ahead_115 : decode cL_ahead 115 = .ok (.if_icmp .ge 10, 3) := by decide +kernel
theorem dL_ahead_118 : decode cL_ahead 118 = .ok (.iconst 2, 1) := by decide +kernel
theorem dL_ahead_119 : decode cL_ahead 119 = .ok (.iload 12, 2) := by decide +kernel
theorem dL_ahead_121 : decode cL_ahead 121 = .ok (.iadd, 1) := by decide +kernel
theorem dL_ahead_122 : decode cL_ahead 122 = .ok (.goto 7, 3) := by decide +kernel
theorem dL_ahead_125 : decode cL_ahead 125 = .ok (.iconst 4, 1) := by decide +kernel
theorem dL_ahead_126 : decode cL_ahead 126 = .ok (.iload 12, 2) := by decide +kernel
theorem dL_ahead_128 : decode cL_ahead 128 = .ok (.iadd, 1) := by decide +kernel
theorem dL_ahead_129 : decode cL_ahead 129 = .ok (.istore 12, 2) := by decide +kernel
theorem dL_ahead_131 : decode cL_ahead 131 = .ok (.iconst 0, 1) := by decide +kernel
theorem dL_ahead_132 : decode cL_ahead 132 = .ok (.istore 13, 2) := by decide +kernel
theorem dL_ahead_134 : decode cL_ahead 134 = .ok (.iload 13, 2) := by decide +kernel
theorem dL_ahead_136 : decode cL_ahead 136 = .ok (.iload 11, 2) := by decide +kernel
theorem dL_ahead_138 : decode cL_ahead 138 = .ok (.if_icmp .ge 19, 3) := by decide +kernel
theorem dL_ahead_141 : decode cL_ahead 141 = .ok (.aload_n 3, 1) := by decide +kernel
theorem dL_ahead_142 : decode cL_ahead 142 = .ok (.aload 7, 2) := by decide +kernel
theorem dL_ahead_144 : decode cL_ahead 144 = .ok (.aload 8, 2) := by decide +kernel
theorem dL_ahead_146 : decode cL_ahead 146 = .ok (.aload 9, 2) := by decide +kernel
theorem dL_ahead_148 : decode cL_ahead 148 = .ok (.invokestatic 80, 3) := by decide +kernel
theorem dL_ahead_151 : decode cL_ahead 151 = .ok (.iinc 13 1, 3) := by decide +kernel
theorem dL_ahead_154 : decode cL_ahead 154 = .ok (.goto (-20), 3) := by decide +kernel
theorem dL_ahead_157 : decode cL_ahead 157 = .ok (.aload_n 0, 1) := by decide +kernel
theorem dL_ahead_158 : decode cL_ahead 158 = .ok (.iload 11, 2) := by decide +kernel
theorem dL_ahead_160 : decode cL_ahead 160 = .ok (.iload 12, 2) := by decide +kernel
theorem dL_ahead_162 : decode cL_ahead 162 = .ok (.invokevirtual 84, 3) := by decide +kernel
theorem dL_ahead_165 : decode cL_ahead 165 = .ok (.iload 12, 2) := by decide +kernel
theorem dL_ahead_167 : decode cL_ahead 167 = .ok (.aload 7, 2) := by decide +kernel
theorem dL_ahead_169 : decode cL_ahead 169 = .ok (.aload 9, 2) := by decide +kernel
theorem dL_ahead_171 : decode cL_ahead 171 = .ok (.invokestatic 61, 3) := by decide +kernel
theorem dL_ahead_174 : decode cL_ahead 174 = .ok (.if_icmp .eq 104, 3) := by decide +kernel
theorem dL_ahead_177 : decode cL_ahead 177 = .ok (.iconst 0, 1) := by decide +kernel
theorem dL_ahead_178 : decode cL_ahead 178 = .ok (.ireturn, 1) := by decide +kernel
theorem dL_ahead_179 : decode cL_ahead 179 = .ok (.iload_n 1, 1) := by decide +kernel
theorem dL_ahead_180 : decode cL_ahead 180 = .ok (.iconst 4, 1) := by decide +kernel
theorem dL_ahead_181 : decode cL_ahead 181 = .ok (.ishr, 1) := by decide +kernel
theorem dL_ahead_182 : decode cL_ahead 182 = .ok (.aload 6, 2) := by decide +kernel
theorem dL_ahead_184 : decode cL_ahead 184 = .ok (.iconst 1, 1) := by decide +kernel
theorem dL_ahead_185 : decode cL_ahead 185 = .ok (.iaload, 1) := by decide +kernel
theorem dL_ahead_186 : decode cL_ahead 186 = .ok (.invokestatic 64, 3) := by decide +kernel
theorem dL_ahead_189 : decode cL_ahead 189 = .ok (.istore 11, 2) := by decide +kernel
theorem dL_ahead_191 : decode cL_ahead 191 = .ok (.iconst 0, 1) := by decide +kernel
theorem dL_ahead_192 : decode cL_ahead 192 = .ok (.istore 12, 2) := by decide +kernel
theorem dL_ahead_194 : decode cL_ahead 194 = .ok (.iload 12, 2) := by decide +kernel
theorem dL_ahead_196 : decode cL_ahead 196 = .ok (.bipush 61, 2) := by decide +kernel
theorem dL_ahead_198 : decode cL_ahead 198 = .ok (.if_icmp .ge 56, 3) := by decide +kernel
theorem dL_ahead_201 : decode cL_ahead 201 = .ok (.aload 7, 2) := by decide +kernel
theorem dL_ahead_203 : decode cL_ahead 203 = .ok (.bipush 8, 2) := by decide +kernel
theorem dL_ahead_205 : decode cL_ahead 205 = .ok (.iload 11, 2) := by decide +kernel
theorem dL_ahead_207 : decode cL_ahead 207 = .ok (.imul, 1) := by decide +kernel
theorem dL_ahead_208 : decode cL_ahead 208 = .ok (.iconst 4, 1) := by decide +kernel
theorem dL_ahead_209 : decode cL_ahead 209 = .ok (.iadd, 1) := by decide +kernel
theorem dL_ahead_210 : decode cL_ahead 210 = .ok (.iaload, 1) := by decide +kernel
theorem dL_ahead_211 : decode cL_ahead 211 = .ok (.iconst 2, 1) := by decide +kernel
theorem dL_ahead_212 : decode cL_ahead 212 = .ok (.if_icmp .eq 26, 3) := by decide +kernel
theorem dL_ahead_215 : decode cL_ahead 215 = .ok (.aload 7, 2) := by decide +kernel
theorem dL_ahead_217 : decode cL_ahead 217 = .ok (.bipush 8, 2) := by decide +kernel
theorem dL_ahead_219 : decode cL_ahead 219 = .ok (.iload 11, 2) := by decide +kernel
theorem dL_ahead_221 : decode cL_ahead 221 = .ok (.imul, 1) := by decide +kernel
theorem dL_ahead_222 : decode cL_ahead 222 = .ok (.iconst 1, 1) := by decide +kernel
theorem dL_ahead_223 : decode cL_ahead 223 = .ok (.iadd, 1) := by decide +kernel
theorem dL_ahead_224 : decode cL_ahead 224 = .ok (.iaload, 1) := by decide +kernel
theorem dL_ahead_225 : decode cL_ahead 225 = .ok (.aload 7, 2) := by decide +kernel
theorem dL_ahead_227 : decode cL_ahead 227 = .ok (.bipush 8, 2) := by decide +kernel
theorem dL_ahead_229 : decode cL_ahead 229 = .ok (.iload 11, 2) := by decide +kernel
theorem dL_ahead_231 : decode cL_ahead 231 = .ok (.imul, 1) := by decide +kernel
theorem dL_ahead_232 : decode cL_ahead 232 = .ok (.iconst 3, 1) := by decide +kernel
theorem dL_ahead_233 : decode cL_ahead 233 = .ok (.iadd, 1) := by decide +kernel
theorem dL_ahead_234 : decode cL_ahead 234 = .ok (.iaload, 1) := by decide +kernel
theorem dL_ahead_235 : decode cL_ahead 235 = .ok (.if_icmp .eq 19, 3) := by decide +kernel
theorem dL_ahead_238 : decode cL_ahead 238 = .ok (.aload_n 3, 1) := by decide +kernel
theorem dL_ahead_239 : decode cL_ahead 239 = .ok (.aload 7, 2) := by decide +kernel
theorem dL_ahead_241 : decode cL_ahead 241 = .ok (.aload 8, 2) := by decide +kernel
theorem dL_ahead_243 : decode cL_ahead 243 = .ok (.aload 9, 2) := by decide +kernel
theorem dL_ahead_245 : decode cL_ahead 245 = .ok (.invokestatic 80, 3) := by decide +kernel
theorem dL_ahead_248 : decode cL_ahead 248 = .ok (.iinc 12 1, 3) := by decide +kernel
theorem dL_ahead_251 : decode cL_ahead 251 = .ok (.goto (-57), 3) := by decide +kernel
theorem dL_ahead_254 : decode cL_ahead 254 = .ok (.aload_n 0, 1) := by decide +kernel
theorem dL_ahead_255 : decode cL_ahead 255 = .ok (.iload 11, 2) := by decide +kernel
theorem dL_ahead_257 : decode cL_ahead 257 = .ok (.invokevirtual 87, 3) := by decide +kernel
theorem dL_ahead_260 : decode cL_ahead 260 = .ok (.iload 12, 2) := by decide +kernel
theorem dL_ahead_262 : decode cL_ahead 262 = .ok (.bipush 60, 2) := by decide +kernel
theorem dL_ahead_264 : decode cL_ahead 264 = .ok (.if_icmp .le 7, 3) := by decide +kernel
theorem dL_ahead_267 : decode cL_ahead 267 = .ok (.iconst (-1), 1) := by decide +kernel
theorem dL_ahead_268 : decode cL_ahead 268 = .ok (.goto 5, 3) := by decide +kernel
theorem dL_ahead_271 : decode cL_ahead 271 = .ok (.iload 12, 2) := by decide +kernel
theorem dL_ahead_273 : decode cL_ahead 273 = .ok (.if_icmp .eq 5, 3) := by decide +kernel
theorem dL_ahead_276 : decode cL_ahead 276 = .ok (.iconst 0, 1) := by decide +kernel
theorem dL_ahead_277 : decode cL_ahead 277 = .ok (.ireturn, 1) := by decide +kernel
theorem dL_ahead_278 : decode cL_ahead 278 = .ok (.iinc 10 1, 3) := by decide +kernel
theorem dL_ahead_281 : decode cL_ahead 281 = .ok (.goto (-260), 3) := by decide +kernel
theorem dL_ahead_284 : decode cL_ahead 284 = .ok (.iconst 1, 1) := by decide +kernel
theorem dL_ahead_285 : decode cL_ahead 285 = .ok (.ireturn, 1) := by decide +kernel
theorem dL_act_0 : decode cL_act 0 = .ok (.iload_n 1, 1) := by decide +kernel
theorem dL_act_1 : decode cL_act 1 = .ok (.iconst 3, 1) := by decide +kernel
theorem dL_act_2 : decode cL_act 2 = .ok (.if_icmp .ge 226, 3) := by decide +kernel
theorem dL_act_5 : decode cL_act 5 = .ok (.iload_n 2, 1) := by decide +kernel
theorem dL_act_6 : decode cL_act 6 = .ok (.bipush 64, 2) := by decide +kernel
theorem dL_act_8 : decode cL_act 8 = .ok (.invokestatic 64, 3) := by decide +kernel
theorem dL_act_11 : decode cL_act 11 = .ok (.istore 8, 2) := by decide +kernel
theorem dL_act_13 : decode cL_act 13 = .ok (.iload 8, 2) := by decide +kernel
theorem dL_act_15 : decode cL_act 15 = .ok (.bipush 8, 2) := by decide +kernel
theorem dL_act_17 : decode cL_act 17 = .ok (.irem, 1) := by decide +kernel
theorem dL_act_18 : decode cL_act 18 = .ok (.iload_n 3, 1) := by decide +kernel
theorem dL_act_19 : decode cL_act 19 = .ok (.bipush 8, 2) := by decide +kernel
theorem dL_act_21 : decode cL_act 21 = .ok (.iload 8, 2) := by decide +kernel
theorem dL_act_23 : decode cL_act 23 = .ok (.bipush 8, 2) := by decide +kernel
theorem dL_act_25 : decode cL_act 25 = .ok (.irem, 1) := by decide +kernel
theorem dL_act_26 : decode cL_act 26 = .ok (.isub, 1) := by decide +kernel
theorem dL_act_27 : decode cL_act 27 = .ok (.iconst 3, 1) := by decide +kernel
theorem dL_act_28 : decode cL_act 28 = .ok (.if_icmp .ge 14, 3) := by decide +kernel
theorem dL_act_31 : decode cL_act 31 = .ok (.bipush 8, 2) := by decide +kernel
theorem dL_act_33 : decode cL_act 33 = .ok (.iload 8, 2) := by decide +kernel
theorem dL_act_35 : decode cL_act 35 = .ok (.bipush 8, 2) := by decide +kernel
theorem dL_act_37 : decode cL_act 37 = .ok (.irem, 1) := by decide +kernel
theorem dL_act_38 : decode cL_act 38 = .ok (.isub, 1) := by decide +kernel
theorem dL_act_39 : decode cL_act 39 = .ok (.goto 4, 3) := by decide +kernel
theorem dL_act_42 : decode cL_act 42 = .ok (.iconst 3, 1) := by decide +kernel
theorem dL_act_43 : decode cL_act 43 = .ok (.invokestatic 64, 3) := by decide +kernel
theorem dL_act_46 : decode cL_act 46 = .ok (.iadd, 1) := by decide +kernel
theorem dL_act_47 : decode cL_act 47 = .ok (.bipush 8, 2) := by decide +kernel
theorem dL_act_49 : decode cL_act 49 = .ok (.iload 8, 2) := by decide +kernel
theorem dL_act_51 : decode cL_act 51 = .ok (.bipush 8, 2) := by decide +kernel
theorem dL_act_53 : decode cL_act 53 = .ok (.idiv, 1) := by decide +kernel
theorem dL_act_54 : decode cL_act 54 = .ok (.iload_n 3, 1) := by decide +kernel
theorem dL_act_55 : decode cL_act 55 = .ok (.iconst 3, 1) := by decide +kernel
theorem dL_act_56 : decode cL_act 56 = .ok (.ishr, 1) := by decide +kernel
theorem dL_act_57 : decode cL_act 57 = .ok (.bipush 8, 2) := by decide +kernel
theorem dL_act_59 : decode cL_act 59 = .ok (.iload 8, 2) := by decide +kernel
theorem dL_act_61 : decode cL_act 61 = .ok (.bipush 8, 2) := by decide +kernel
theorem dL_act_63 : decode cL_act 63 = .ok (.idiv, 1) := by decide +kernel
theorem dL_act_64 : decode cL_act 64 = .ok (.isub, 1) := by decide +kernel
theorem dL_act_65 : decode cL_act 65 = .ok (.iconst 3, 1) := by decide +kernel
theorem dL_act_66 : decode cL_act 66 = .ok (.if_icmp .ge 14, 3) := by decide +kernel
theorem dL_act_69 : decode cL_act 69 = .ok (.bipush 8, 2) := by decide +kernel
theorem dL_act_71 : decode cL_act 71 = .ok (.iload 8, 2) := by decide +kernel
theorem dL_act_73 : decode cL_act 73 = .ok (.bipush 8, 2) := by decide +kernel
theorem dL_act_75 : decode cL_act 75 = .ok (.idiv, 1) := by decide +kernel
theorem dL_act_76 : decode cL_act 76 = .ok (.isub, 1) := by decide +kernel
theorem dL_act_77 : decode cL_act 77 = .ok (.goto 4, 3) := by decide +kernel
theorem dL_act_80 : decode cL_act 80 = .ok (.iconst 3, 1) := by decide +kernel
theorem dL_act_81 : decode cL_act 81 = .ok (.invokestatic 64, 3) := by decide +kernel
theorem dL_act_84 : decode cL_act 84 = .ok (.iadd, 1) := by decide +kernel
theorem dL_act_85 : decode cL_act 85 = .ok (.imul, 1) := by decide +kernel
theorem dL_act_86 : decode cL_act 86 = .ok (.iadd, 1) := by decide +kernel
theorem dL_act_87 : decode cL_act 87 = .ok (.istore 9, 2) := by decide +kernel
theorem dL_act_89 : decode cL_act 89 = .ok (.iload_n 3, 1) := by decide +kernel
theorem dL_act_90 : decode cL_act 90 = .ok (.bipush 6, 2) := by decide +kernel
theorem dL_act_92 : decode cL_act 92 = .ok (.ishr, 1) := by decide +kernel
theorem dL_act_93 : decode cL_act 93 = .ok (.bipush 7, 2) := by decide +kernel
theorem dL_act_95 : decode cL_act 95 = .ok (.invokestatic 64, 3) := by decide +kernel
theorem dL_act_98 : decode cL_act 98 = .ok (.istore 10, 2) := by decide +kernel
theorem dL_act_100 : decode cL_act 100 = .ok (.iconst 0, 1) := by decide +kernel
theorem dL_act_101 : decode cL_act 101 = .ok (.istore 11, 2) := by decide +kernel
theorem dL_act_103 : decode cL_act 103 = .ok (.iconst 0, 1) := by decide +kernel
theorem dL_act_104 : decode cL_act 104 = .ok (.istore 12, 2) := by decide +kernel
theorem dL_act_106 : decode cL_act 106 = .ok (.iload 12, 2) := by decide +kernel
theorem dL_act_108 : decode cL_act 108 = .ok (.bipush 64, 2) := by decide +kernel
theorem dL_act_110 : decode cL_act 110 = .ok (.if_icmp .ge 91, 3) := by decide +kernel
theorem dL_act_113 : decode cL_act 113 = .ok (.iload 12, 2) := by decide +kernel
theorem dL_act_115 : decode cL_act 115 = .ok (.bipush 8, 2) := by decide +kernel
theorem dL_act_117 : decode cL_act 117 = .ok (.irem, 1) := by decide +kernel
theorem dL_act_118 : decode cL_act 118 = .ok (.iload 8, 2) := by decide +kernel
theorem dL_act_120 : decode cL_act 120 = .ok (.bipush 8, 2) := by decide +kernel
theorem dL_act_122 : decode cL_act 122 = .ok (.irem, 1) := by decide +kernel
theorem dL_act_123 : decode cL_act 123 = .ok (.if_icmp .lt 72, 3) := by decide +kernel
theorem dL_act_126 : decode cL_act 126 = .ok (.iload 12, 2) := by decide +kernel
theorem dL_act_128 : decode cL_act 128 = .ok (.bipush 8, 2) := by decide +kernel
theorem dL_act_130 : decode cL_act 130 = .ok (.irem, 1) := by decide +kernel
theorem dL_act_131 : decode cL_act 131 = .ok (.iload 9, 2) := by decide +kernel
theorem dL_act_133 : decode cL_act 133 = .ok (.bipush 8, 2) := by decide +kernel
theorem dL_act_135 : decode cL_act 135 = .ok (.irem, 1) := by decide +kernel
theorem dL_act_136 : decode cL_act 136 = .ok (.if_icmp .gt 59, 3) := by decide +kernel
theorem dL_act_139 : decode cL_act 139 = .ok (.iload 12, 2) := by decide +kernel
theorem dL_act_141 : decode cL_act 141 = .ok (.bipush 8, 2) := by decide +kernel
theorem dL_act_143 : decode cL_act 143 = .ok (.idiv, 1) := by decide +kernel
theorem dL_act_144 : decode cL_act 144 = .ok (.iload 8, 2) := by decide +kernel
theorem dL_act_146 : decode cL_act 146 = .ok (.bipush 8, 2) := by decide +kernel
theorem dL_act_148 : decode cL_act 148 = .ok (.idiv, 1) := by decide +kernel
theorem dL_act_149 : decode cL_act 149 = .ok (.if_icmp .lt 46, 3) := by decide +kernel
theorem dL_act_152 : decode cL_act 152 = .ok (.iload 12, 2) := by decide +kernel
theorem dL_act_154 : decode cL_act 154 = .ok (.bipush 8, 2) := by decide +kernel
theorem dL_act_156 : decode cL_act 156 = .ok (.idiv, 1) := by decide +kernel
theorem dL_act_157 : decode cL_act 157 = .ok (.iload 9, 2) := by decide +kernel
theorem dL_act_159 : decode cL_act 159 = .ok (.bipush 8, 2) := by decide +kernel
theorem dL_act_161 : decode cL_act 161 = .ok (.idiv, 1) := by decide +kernel
theorem dL_act_162 : decode cL_act 162 = .ok (.if_icmp .le 6, 3) := by decide +kernel
theorem dL_act_165 : decode cL_act 165 = .ok (.goto 30, 3) := by decide +kernel
theorem dL_act_168 : decode cL_act 168 = .ok (.iload 11, 2) := by decide +kernel
theorem dL_act_170 : decode cL_act 170 = .ok (.aload 4, 2) := by decide +kernel
theorem dL_act_172 : decode cL_act 172 = .ok (.iload 12, 2) := by decide +kernel
theorem dL_act_174 : decode cL_act 174 = .ok (.iaload, 1) := by decide +kernel
theorem dL_act_175 : decode cL_act 175 = .ok (.iload 10, 2) := by decide +kernel
theorem dL_act_177 : decode cL_act 177 = .ok (.if_icmp .eq 7, 3) := by decide +kernel
theorem dL_act_180 : decode cL_act 180 = .ok (.iconst 1, 1) := by decide +kernel
theorem dL_act_181 : decode cL_act 181 = .ok (.goto 4, 3) := by decide +kernel
theorem dL_act_184 : decode cL_act 184 = .ok (.iconst 0, 1) := by decide +kernel
theorem dL_act_185 : decode cL_act 185 = .ok (.iadd, 1) := by decide +kernel
theorem dL_act_186 : decode cL_act 186 = .ok (.istore 11, 2) := by decide +kernel
theorem dL_act_188 : decode cL_act 188 = .ok (.aload 4, 2) := by decide +kernel
theorem dL_act_190 : decode cL_act 190 = .ok (.iload 12, 2) := by decide +kernel
theorem dL_act_192 : decode cL_act 192 = .ok (.iload 10, 2) := by decide +kernel
theorem dL_act_194 : decode cL_act 194 = .ok (.iastore, 1) := by decide +kernel
theorem dL_act_195 : decode cL_act 195 = .ok (.iinc 12 1, 3) := by decide +kernel
theorem dL_act_198 : decode cL_act 198 = .ok (.goto (-92), 3) := by decide +kernel
theorem dL_act_201 : decode cL_act 201 = .ok (.aload_n 0, 1) := by decide +kernel
theorem dL_act_202 : decode cL_act 202 = .ok (.iload 8, 2) := by decide +kernel
theorem dL_act_204 : decode cL_act 204 = .ok (.invokestatic 46, 3) := by decide +kernel
theorem dL_act_207 : decode cL_act 207 = .ok (.iload 9, 2) := by decide +kernel
theorem dL_act_209 : decode cL_act 209 = .ok (.invokestatic 46, 3) := by decide +kernel
theorem dL_act_212 : decode cL_act 212 = .ok (.iload 10, 2) := by decide +kernel
theorem dL_act_214 : decode cL_act 214 = .ok (.invokevirtual 90, 3) := by decide +kernel
theorem dL_act_217 : decode cL_act 217 = .ok (.iload 11, 2) := by decide +kernel
theorem dL_act_219 : decode cL_act 219 = .ok (.if_icmp .ne 7, 3) := by decide +kernel
theorem dL_act_222 : decode cL_act 222 = .ok (.iconst 1, 1) := by decide +kernel
theorem dL_act_223 : decode cL_act 223 = .ok (.goto 4, 3) := by decide +kernel
theorem dL_act_226 : decode cL_act 226 = .ok (.iconst 0, 1) := by decide +kernel
theorem dL_act_227 : decode cL_act 227 = .ok (.ireturn, 1) := by decide +kernel
theorem dL_act_228 : decode cL_act 228 = .ok (.iload_n 1, 1) := by decide +kernel
theorem dL_act_229 : decode cL_act 229 = .ok (.iconst 3, 1) := by decide +kernel
theorem dL_act_230 : decode cL_act 230 = .ok (.if_icmp .ne 65, 3) := by decide +kernel
theorem dL_act_233 : decode cL_act 233 = .ok (.iload_n 2, 1) := by decide +kernel
theorem dL_act_234 : decode cL_act 234 = .ok (.iconst 2, 1) := by decide +kernel
theorem dL_act_235 : decode cL_act 235 = .ok (.invokestatic 64, 3) := by decide +kernel
theorem dL_act_238 : decode cL_act 238 = .ok (.istore 8, 2) := by decide +kernel
theorem dL_act_240 : decode cL_act 240 = .ok (.aload 7, 2) := by decide +kernel
theorem dL_act_242 : decode cL_act 242 = .ok (.bipush 7, 2) := by decide +kernel
theorem dL_act_244 : decode cL_act 244 = .ok (.iload 8, 2) := by decide +kernel
theorem dL_act_246 : decode cL_act 246 = .ok (.iadd, 1) := by decide +kernel
theorem dL_act_247 : decode cL_act 247 = .ok (.iaload, 1) := by decide +kernel
theorem dL_act_248 : decode cL_act 248 = .ok (.invokestatic 46, 3) := by decide +kernel
theorem dL_act_251 : decode cL_act 251 = .ok (.istore 9, 2) := by decide +kernel
theorem dL_act_253 : decode cL_act 253 = .ok (.aload 7, 2) := by decide +kernel
theorem dL_act_255 : decode cL_act 255 = .ok (.bipush 7, 2) := by decide +kernel
theorem dL_act_257 : decode cL_act 257 = .ok (.iload 8, 2) := by decide +kernel
theorem dL_act_259 : decode cL_act 259 = .ok (.iadd, 1) := by decide +kernel
theorem dL_act_260 : decode cL_act 260 = .ok (.iload_n 3, 1) := by decide +kernel
theorem dL_act_261 : decode cL_act 261 = .ok (.bipush 64, 2) := by decide +kernel
theorem dL_act_263 : decode cL_act 263 = .ok (.invokestatic 64, 3) := by decide +kernel
theorem dL_act_266 : decode cL_act 266 = .ok (.iastore, 1) := by decide +kernel
theorem dL_act_267 : decode cL_act 267 = .ok (.aload_n 0, 1) := by decide +kernel
theorem dL_act_268 : decode cL_act 268 = .ok (.iload 8, 2) := by decide +kernel
theorem dL_act_270 : decode cL_act 270 = .ok (.aload 7, 2) := by decide +kernel
theorem dL_act_272 : decode cL_act 272 = .ok (.bipush 7, 2) := by decide +kernel
theorem dL_act_274 : decode cL_act 274 = .ok (.iload 8, 2) := by decide +kernel
theorem dL_act_276 : decode cL_act 276 = .ok (.iadd, 1) := by decide +kernel
theorem dL_act_277 : decode cL_act 277 = .ok (.iaload, 1) := by decide +kernel
theorem dL_act_278 : decode cL_act 278 = .ok (.invokestatic 46, 3) := by decide +kernel
theorem dL_act_281 : decode cL_act 281 = .ok (.invokevirtual 94, 3) := by decide +kernel
theorem dL_act_284 : decode cL_act 284 = .ok (.iload 9, 2) := by decide +kernel
theorem dL_act_286 : decode cL_act 286 = .ok (.if_icmp .ne 7, 3) := by decide +kernel
theorem dL_act_289 : decode cL_act 289 = .ok (.iconst 1, 1) := by decide +kernel
theorem dL_act_290 : decode cL_act 290 = .ok (.goto 4, 3) := by decide +kernel
theorem dL_act_293 : decode cL_act 293 = .ok (.iconst 0, 1) := by decide +kernel
theorem dL_act_294 : decode cL_act 294 = .ok (.ireturn, 1) := by decide +kernel
theorem dL_act_295 : decode cL_act 295 = .ok (.iload_n 1, 1) := by decide +kernel
theorem dL_act_296 : decode cL_act 296 = .ok (.bipush 7, 2) := by decide +kernel
theorem dL_act_298 : decode cL_act 298 = .ok (.if_icmp .ge 186, 3) := by decide +kernel
theorem dL_act_301 : decode cL_act 301 = .ok (.iload_n 3, 1) := by decide +kernel
theorem dL_act_302 : decode cL_act 302 = .ok (.iload_n 2, 1) := by decide +kernel
theorem dL_act_303 : decode cL_act 303 = .ok (.iconst 2, 1) := by decide +kernel
theorem dL_act_304 : decode cL_act 304 = .ok (.invokestatic 64, 3) := by decide +kernel
theorem dL_act_307 : decode cL_act 307 = .ok (.ifCond .ne 8, 3) := by decide +kernel
theorem dL_act_310 : decode cL_act 310 = .ok (.bipush 64, 2) := by decide +kernel
theorem dL_act_312 : decode cL_act 312 = .ok (.goto 5, 3) := by decide +kernel
theorem dL_act_315 : decode cL_act 315 = .ok (.bipush 24, 2) := by decide +kernel
theorem dL_act_317 : decode cL_act 317 = .ok (.invokestatic 64, 3) := by decide +kernel
theorem dL_act_320 : decode cL_act 320 = .ok (.istore 8, 2) := by decide +kernel
theorem dL_act_322 : decode cL_act 322 = .ok (.aload 7, 2) := by decide +kernel
theorem dL_act_324 : decode cL_act 324 = .ok (.iconst 1, 1) := by decide +kernel
theorem dL_act_325 : decode cL_act 325 = .ok (.iaload, 1) := by decide +kernel
theorem dL_act_326 : decode cL_act 326 = .ok (.bipush 6, 2) := by decide +kernel
theorem dL_act_328 : decode cL_act 328 = .ok (.if_icmp .eq 15, 3) := by decide +kernel
theorem dL_act_331 : decode cL_act 331 = .ok (.iload 8, 2) := by decide +kernel
theorem dL_act_333 : decode cL_act 333 = .ok (.aload 5, 2) := by decide +kernel
theorem dL_act_335 : decode cL_act 335 = .ok (.aload 7, 2) := by decide +kernel
theorem dL_act_337 : decode cL_act 337 = .ok (.invokestatic 25, 3) := by decide +kernel
theorem dL_act_340 : decode cL_act 340 = .ok (.ifCond .lt 5, 3) := by decide +kernel
theorem dL_act_343 : decode cL_act 343 = .ok (.iconst 1, 1) := by decide +kernel
theorem dL_act_344 : decode cL_act 344 = .ok (.ireturn, 1) := by decide +kernel
theorem dL_act_345 : decode cL_act 345 = .ok (.bipush 8, 2) := by decide +kernel
theorem dL_act_347 : decode cL_act 347 = .ok (.aload 7, 2) := by decide +kernel
theorem dL_act_349 : decode cL_act 349 = .ok (.iconst 1, 1) := by decide +kernel
theorem dL_act_350 : decode cL_act 350 = .ok (.iaload, 1) := by decide +kernel
theorem dL_act_351 : decode cL_act 351 = .ok (.imul, 1) := by decide +kernel
theorem dL_act_352 : decode cL_act 352 = .ok (.istore 9, 2) := by decide +kernel
theorem dL_act_354 : decode cL_act 354 = .ok (.iconst 0, 1) := by decide +kernel
theorem dL_act_355 : decode cL_act 355 = .ok (.istore 10, 2) := by decide +kernel
theorem dL_act_357 : decode cL_act 357 = .ok (.iload 10, 2) := by decide +kernel
theorem dL_act_359 : decode cL_act 359 = .ok (.bipush 8, 2) := by decide +kernel
theorem dL_act_361 : decode cL_act 361 = .ok (.if_icmp .ge 18, 3) := by decide +kernel
theorem dL_act_364 : decode cL_act 364 = .ok (.aload 5, 2) := by decide +kernel
theorem dL_act_366 : decode cL_act 366 = .ok (.iload 9, 2) := by decide +kernel
theorem dL_act_368 : decode cL_act 368 = .ok (.iload 10, 2) := by decide +kernel
theorem dL_act_370 : decode cL_act 370 = .ok (.iadd, 1) := by decide +kernel
theorem dL_act_371 : decode cL_act 371 = .ok (.iconst 0, 1) := by decide +kernel
theorem dL_act_372 : decode cL_act 372 = .ok (.iastore, 1) := by decide +kernel
theorem dL_act_373 : decode cL_act 373 = .ok (.iinc 10 1, 3) := by decide +kernel
theorem dL_act_376 : decode cL_act 376 = .ok (.goto (-19), 3) := by decide +kernel
theorem dL_act_379 : decode cL_act 379 = .ok (.aload 5, 2) := by decide +kernel
theorem dL_act_381 : decode cL_act 381 = .ok (.iload 9, 2) := by decide +kernel
theorem dL_act_383 : decode cL_act 383 = .ok (.iload_n 2, 1) := by decide +kernel
theorem dL_act_384 : decode cL_act 384 = .ok (.iconst 3, 1) := by decide +kernel
theorem dL_act_385 : decode cL_act 385 = .ok (.ishr, 1) := by decide +kernel
theorem dL_act_386 : decode cL_act 386 = .ok (.iconst 2, 1) := by decide +kernel
theorem dL_act_387 : decode cL_act 387 = .ok (.invokestatic 64, 3) := by decide +kernel
theorem dL_act_390 : decode cL_act 390 = .ok (.iastore, 1) := by decide +kernel
theorem dL_act_391 : decode cL_act 391 = .ok (.aload 5, 2) := by decide +kernel
theorem dL_act_393 : decode cL_act 393 = .ok (.iload 9, 2) := by decide +kernel
theorem dL_act_395 : decode cL_act 395 = .ok (.iconst 1, 1) := by decide +kernel
theorem dL_act_396 : decode cL_act 396 = .ok (.iadd, 1) := by decide +kernel
theorem dL_act_397 : decode cL_act 397 = .ok (.iload 8, 2) := by decide +kernel
theorem dL_act_399 : decode cL_act 399 = .ok (.iastore, 1) := by decide +kernel
theorem dL_act_400 : decode cL_act 400 = .ok (.aload 5, 2) := by decide +kernel
theorem dL_act_402 : decode cL_act 402 = .ok (.iload 9, 2) := by decide +kernel
theorem dL_act_404 : decode cL_act 404 = .ok (.iconst 2, 1) := by decide +kernel
theorem dL_act_405 : decode cL_act 405 = .ok (.iadd, 1) := by decide +kernel
theorem dL_act_406 : decode cL_act 406 = .ok (.iconst 1, 1) := by decide +kernel
theorem dL_act_407 : decode cL_act 407 = .ok (.iload_n 2, 1) := by decide +kernel
theorem dL_act_408 : decode cL_act 408 = .ok (.iconst 5, 1) := by decide +kernel
theorem dL_act_409 : decode cL_act 409 = .ok (.ishr, 1) := by decide +kernel
theorem dL_act_410 : decode cL_act 410 = .ok (.bipush 20, 2) := by decide +kernel
theorem dL_act_412 : decode cL_act 412 = .ok (.invokestatic 64, 3) := by decide +kernel
theorem dL_act_415 : decode cL_act 415 = .ok (.iadd, 1) := by decide +kernel
theorem dL_act_416 : decode cL_act 416 = .ok (.iastore, 1) := by decide +kernel
theorem dL_act_417 : decode cL_act 417 = .ok (.aload 5, 2) := by decide +kernel
theorem dL_act_419 : decode cL_act 419 = .ok (.iload 9, 2) := by decide +kernel
theorem dL_act_421 : decode cL_act 421 = .ok (.iconst 3, 1) := by decide +kernel
theorem dL_act_422 : decode cL_act 422 = .ok (.iadd, 1) := by decide +kernel
theorem dL_act_423 : decode cL_act 423 = .ok (.iload 8, 2) := by decide +kernel
theorem dL_act_425 : decode cL_act 425 = .ok (.iastore, 1) := by decide +kernel
theorem dL_act_426 : decode cL_act 426 = .ok (.aload 5, 2) := by decide +kernel
theorem dL_act_428 : decode cL_act 428 = .ok (.iload 9, 2) := by decide +kernel
theorem dL_act_430 : decode cL_act 430 = .ok (.iconst 5, 1) := by decide +kernel
theorem dL_act_431 : decode cL_act 431 = .ok (.iadd, 1) := by decide +kernel
theorem dL_act_432 : decode cL_act 432 = .ok (.aload 5, 2) := by decide +kernel
theorem dL_act_434 : decode cL_act 434 = .ok (.iload 9, 2) := by decide +kernel
theorem dL_act_436 : decode cL_act 436 = .ok (.iconst 2, 1) := by decide +kernel
theorem dL_act_437 : decode cL_act 437 = .ok (.iadd, 1) := by decide +kernel
theorem dL_act_438 : decode cL_act 438 = .ok (.iaload, 1) := by decide +kernel
theorem dL_act_439 : decode cL_act 439 = .ok (.iastore, 1) := by decide +kernel
theorem dL_act_440 : decode cL_act 440 = .ok (.aload 7, 2) := by decide +kernel
theorem dL_act_442 : decode cL_act 442 = .ok (.iconst 1, 1) := by decide +kernel
theorem dL_act_443 : decode cL_act 443 = .ok (.dup2, 1) := by decide +kernel
theorem dL_act_444 : decode cL_act 444 = .ok (.iaload, 1) := by decide +kernel
theorem dL_act_445 : decode cL_act 445 = .ok (.iconst 1, 1) := by decide +kernel
theorem dL_act_446 : decode cL_act 446 = .ok (.iadd, 1) := by decide +kernel
theorem dL_act_447 : decode cL_act 447 = .ok (.iastore, 1) := by decide +kernel
theorem dL_act_448 : decode cL_act 448 = .ok (.aload_n 0, 1) := by decide +kernel
theorem dL_act_449 : decode cL_act 449 = .ok (.aload 5, 2) := by decide +kernel
theorem dL_act_451 : decode cL_act 451 = .ok (.iload 9, 2) := by decide +kernel
theorem dL_act_453 : decode cL_act 453 = .ok (.iaload, 1) := by decide +kernel
theorem dL_act_454 : decode cL_act 454 = .ok (.iload 8, 2) := by decide +kernel
theorem dL_act_456 : decode cL_act 456 = .ok (.invokestatic 46, 3) := by decide +kernel
theorem dL_act_459 : decode cL_act 459 = .ok (.aload 5, 2) := by decide +kernel
theorem dL_act_461 : decode cL_act 461 = .ok (.iload 9, 2) := by decide +kernel
theorem dL_act_463 : decode cL_act 463 = .ok (.iconst 2, 1) := by decide +kernel
theorem dL_act_464 : decode cL_act 464 = .ok (.iadd, 1) := by decide +kernel
theorem dL_act_465 : decode cL_act 465 = .ok (.iaload, 1) := by decide +kernel
theorem dL_act_466 : decode cL_act 466 = .ok (.invokevirtual 97, 3) := by decide +kernel
theorem dL_act_469 : decode cL_act 469 = .ok (.aload 7, 2) := by decide +kernel
theorem dL_act_471 : decode cL_act 471 = .ok (.iconst 1, 1) := by decide +kernel
theorem dL_act_472 : decode cL_act 472 = .ok (.iaload, 1) := by decide +kernel
theorem dL_act_473 : decode cL_act 473 = .ok (.iconst 1, 1) := by decide +kernel
theorem dL_act_474 : decode cL_act 474 = .ok (.isub, 1) := by decide +kernel
theorem dL_act_475 : decode cL_act 475 = .ok (.if_icmp .ne 7, 3) := by decide +kernel
theorem dL_act_478 : decode cL_act 478 = .ok (.iconst 1, 1) := by decide +kernel
theorem dL_act_479 : decode cL_act 479 = .ok (.goto 4, 3) := by decide +kernel
theorem dL_act_482 : decode cL_act 482 = .ok (.iconst 0, 1) := by decide +kernel
theorem dL_act_483 : decode cL_act 483 = .ok (.ireturn, 1) := by decide +kernel
theorem dL_act_484 : decode cL_act 484 = .ok (.aload 7, 2) := by decide +kernel
theorem dL_act_486 : decode cL_act 486 = .ok (.iconst 1, 1) := by decide +kernel
theorem dL_act_487 : decode cL_act 487 = .ok (.iaload, 1) := by decide +kernel
theorem dL_act_488 : decode cL_act 488 = .ok (.ifCond .ne 5, 3) := by decide +kernel
theorem dL_act_491 : decode cL_act 491 = .ok (.iconst 1, 1) := by decide +kernel
theorem dL_act_492 : decode cL_act 492 = .ok (.ireturn, 1) := by decide +kernel
theorem dL_act_493 : decode cL_act 493 = .ok (.iload_n 1, 1) := by decide +kernel
theorem dL_act_494 : decode cL_act 494 = .ok (.bipush 11, 2) := by decide +kernel
theorem dL_act_496 : decode cL_act 496 = .ok (.if_icmp .ge 170, 3) := by decide +kernel
theorem dL_act_499 : decode cL_act 499 = .ok (.iload_n 2, 1) := by decide +kernel
theorem dL_act_500 : decode cL_act 500 = .ok (.aload 7, 2) := by decide +kernel
theorem dL_act_502 : decode cL_act 502 = .ok (.iconst 1, 1) := by decide +kernel
theorem dL_act_503 : decode cL_act 503 = .ok (.iaload, 1) := by decide +kernel
theorem dL_act_504 : decode cL_act 504 = .ok (.invokestatic 64, 3) := by decide +kernel
theorem dL_act_507 : decode cL_act 507 = .ok (.istore 8, 2) := by decide +kernel
theorem dL_act_509 : decode cL_act 509 = .ok (.iload 8, 2) := by decide +kernel
theorem dL_act_511 : decode cL_act 511 = .ok (.aload 4, 2) := by decide +kernel
theorem dL_act_513 : decode cL_act 513 = .ok (.aload 5, 2) := by decide +kernel
theorem dL_act_515 : decode cL_act 515 = .ok (.aload 7, 2) := by decide +kernel
theorem dL_act_517 : decode cL_act 517 = .ok (.invokestatic 52, 3) := by decide +kernel
theorem dL_act_520 : decode cL_act 520 = .ok (.ifCond .ne 12, 3) := by decide +kernel
theorem dL_act_523 : decode cL_act 523 = .ok (.aload 7, 2) := by decide +kernel
theorem dL_act_525 : decode cL_act 525 = .ok (.iconst 2, 1) := by decide +kernel
theorem dL_act_526 : decode cL_act 526 = .ok (.iaload, 1) := by decide +kernel
theorem dL_act_527 : decode cL_act 527 = .ok (.bipush 12, 2) := by decide +kernel
theorem dL_act_529 : decode cL_act 529 = .ok (.if_icmp .ne 5, 3) := by decide +kernel
theorem dL_act_532 : decode cL_act 532 = .ok (.iconst 1, 1) := by decide +kernel
theorem dL_act_533 : decode cL_act 533 = .ok (.ireturn, 1) := by decide +kernel
theorem dL_act_534 : decode cL_act 534 = .ok (.aload 7, 2) := by decide +kernel
theorem dL_act_536 : decode cL_act 536 = .ok (.bipush 7, 2) := by decide +kernel
theorem dL_act_538 : decode cL_act 538 = .ok (.aload 5, 2) := by decide +kernel
theorem dL_act_540 : decode cL_act 540 = .ok (.bipush 8, 2) := by decide +kernel
theorem dL_act_542 : decode cL_act 542 = .ok (.iload 8, 2) := by decide +kernel
theorem dL_act_544 : decode cL_act 544 = .ok (.imul, 1) := by decide +kernel
theorem dL_act_545 : decode cL_act 545 = .ok (.iaload, 1) := by decide +kernel
theorem dL_act_546 : decode cL_act 546 = .ok (.iadd, 1) := by decide +kernel
theorem dL_act_547 : decode cL_act 547 = .ok (.iaload, 1) := by decide +kernel
theorem dL_act_548 : decode cL_act 548 = .ok (.iload 8, 2) := by decide +kernel
theorem dL_act_550 : decode cL_act 550 = .ok (.aload 4, 2) := by decide +kernel
theorem dL_act_552 : decode cL_act 552 = .ok (.aload 5, 2) := by decide +kernel
theorem dL_act_554 : decode cL_act 554 = .ok (.aload 7, 2) := by decide +kernel
theorem dL_act_556 : decode cL_act 556 = .ok (.invokestatic 37, 3) := by decide +kernel
theorem dL_act_559 : decode cL_act 559 = .ok (.istore 9, 2) := by decide +kernel
theorem dL_act_561 : decode cL_act 561 = .ok (.iconst 4, 1) := by decide +kernel
theorem dL_act_562 : decode cL_act 562 = .ok (.aload 7, 2) := by decide +kernel
theorem dL_act_564 : decode cL_act 564 = .ok (.iconst 2, 1) := by decide +kernel
theorem dL_act_565 : decode cL_act 565 = .ok (.dup2, 1) := by decide +kernel
theorem dL_act_566 : decode cL_act 566 = .ok (.iaload, 1) := by decide +kernel
theorem dL_act_567 : decode cL_act 567 = .ok (.dup_x2, 1) := by decide +kernel
theorem dL_act_568 : decode cL_act 568 = .ok (.iconst 1, 1) := by decide +kernel
theorem dL_act_569 : decode cL_act 569 = .ok (.iadd, 1) := by decide +kernel
theorem dL_act_570 : decode cL_act 570 = .ok (.iastore, 1) := by decide +kernel
theorem dL_act_571 : decode cL_act 571 = .ok (.imul, 1) := by decide +kernel
theorem dL_act_572 : decode cL_act 572 = .ok (.istore 10, 2) := by decide +kernel
theorem dL_act_574 : decode cL_act 574 = .ok (.aload 6, 2) := by decide +kernel
theorem dL_act_576 : decode cL_act 576 = .ok (.iload 10, 2) := by decide +kernel
theorem dL_act_578 : decode cL_act 578 = .ok (.aload 7, 2) := by decide +kernel
theorem dL_act_580 : decode cL_act 580 = .ok (.iconst 3, 1) := by decide +kernel
theorem dL_act_581 : decode cL_act 581 = .ok (.dup2, 1) := by decide +kernel
theorem dL_act_582 : decode cL_act 582 = .ok (.iaload, 1) := by decide +kernel
theorem dL_act_583 : decode cL_act 583 = .ok (.dup_x2, 1) := by decide +kernel
theorem dL_act_584 : decode cL_act 584 = .ok (.iconst 1, 1) := by decide +kernel
theorem dL_act_585 : decode cL_act 585 = .ok (.iadd, 1) := by decide +kernel
theorem dL_act_586 : decode cL_act 586 = .ok (.iastore, 1) := by decide +kernel
theorem dL_act_587 : decode cL_act 587 = .ok (.iastore, 1) := by decide +kernel
theorem dL_act_588 : decode cL_act 588 = .ok (.aload 6, 2) := by decide +kernel
theorem dL_act_590 : decode cL_act 590 = .ok (.iload 10, 2) := by decide +kernel
theorem dL_act_592 : decode cL_act 592 = .ok (.iconst 1, 1) := by decide +kernel
theorem dL_act_593 : decode cL_act 593 = .ok (.iadd, 1) := by decide +kernel
theorem dL_act_594 : decode cL_act 594 = .ok (.iload 8, 2) := by decide +kernel
theorem dL_act_596 : decode cL_act 596 = .ok (.iastore, 1) := by decide +kernel
theorem dL_act_597 : decode cL_act 597 = .ok (.aload 6, 2) := by decide +kernel
theorem dL_act_599 : decode cL_act 599 = .ok (.iload 10, 2) := by decide +kernel
theorem dL_act_601 : decode cL_act 601 = .ok (.iconst 2, 1) := by decide +kernel
theorem dL_act_602 : decode cL_act 602 = .ok (.iadd, 1) := by decide +kernel
theorem dL_act_603 : decode cL_act 603 = .ok (.iload_n 3, 1) := by decide +kernel
theorem dL_act_604 : decode cL_act 604 = .ok (.iload_n 2, 1) := by decide +kernel
theorem dL_act_605 : decode cL_act 605 = .ok (.iconst 5, 1) := by decide +kernel
theorem dL_act_606 : decode cL_act 606 = .ok (.ishr, 1) := by decide +kernel
theorem dL_act_607 : decode cL_act 607 = .ok (.iconst 3, 1) := by decide +kernel
theorem dL_act_608 : decode cL_act 608 = .ok (.invokestatic 64, 3) := by decide +kernel
theorem dL_act_611 : decode cL_act 611 = .ok (.ifCond .ne 8, 3) := by decide +kernel
theorem dL_act_614 : decode cL_act 614 = .ok (.bipush 64, 2) := by decide +kernel
theorem dL_act_616 : decode cL_act 616 = .ok (.goto 5, 3) := by decide +kernel
theorem dL_act_619 : decode cL_act 619 = .ok (.bipush 24, 2) := by decide +kernel
theorem dL_act_621 : decode cL_act 621 = .ok (.invokestatic 64, 3) := by decide +kernel
theorem dL_act_624 : decode cL_act 624 = .ok (.iastore, 1) := by decide +kernel
theorem dL_act_625 : decode cL_act 625 = .ok (.aload 6, 2) := by decide +kernel
theorem dL_act_627 : decode cL_act 627 = .ok (.iload 10, 2) := by decide +kernel
theorem dL_act_629 : decode cL_act 629 = .ok (.iconst 3, 1) := by decide +kernel
theorem dL_act_630 : decode cL_act 630 = .ok (.iadd, 1) := by decide +kernel
theorem dL_act_631 : decode cL_act 631 = .ok (.aload 7, 2) := by decide +kernel
theorem dL_act_633 : decode cL_act 633 = .ok (.iconst 0, 1) := by decide +kernel
theorem dL_act_634 : decode cL_act 634 = .ok (.iaload, 1) := by decide +kernel
theorem dL_act_635 : decode cL_act 635 = .ok (.iload 9, 2) := by decide +kernel
theorem dL_act_637 : decode cL_act 637 = .ok (.iadd, 1) := by decide +kernel
theorem dL_act_638 : decode cL_act 638 = .ok (.iastore, 1) := by decide +kernel
theorem dL_act_639 : decode cL_act 639 = .ok (.aload_n 0, 1) := by decide +kernel
theorem dL_act_640 : decode cL_act 640 = .ok (.iload 8, 2) := by decide +kernel
theorem dL_act_642 : decode cL_act 642 = .ok (.aload 6, 2) := by decide +kernel
theorem dL_act_644 : decode cL_act 644 = .ok (.iload 10, 2) := by decide +kernel
theorem dL_act_646 : decode cL_act 646 = .ok (.iconst 2, 1) := by decide +kernel
theorem dL_act_647 : decode cL_act 647 = .ok (.iadd, 1) := by decide +kernel
theorem dL_act_648 : decode cL_act 648 = .ok (.iaload, 1) := by decide +kernel
theorem dL_act_649 : decode cL_act 649 = .ok (.invokestatic 46, 3) := by decide +kernel
theorem dL_act_652 : decode cL_act 652 = .ok (.invokevirtual 100, 3) := by decide +kernel
theorem dL_act_655 : decode cL_act 655 = .ok (.iload 9, 2) := by decide +kernel
theorem dL_act_657 : decode cL_act 657 = .ok (.if_icmp .ne 7, 3) := by decide +kernel
theorem dL_act_660 : decode cL_act 660 = .ok (.iconst 1, 1) := by decide +kernel
theorem dL_act_661 : decode cL_act 661 = .ok (.goto 4, 3) := by decide +kernel
theorem dL_act_664 : decode cL_act 664 = .ok (.iconst 0, 1) := by decide +kernel
theorem dL_act_665 : decode cL_act 665 = .ok (.ireturn, 1) := by decide +kernel
theorem dL_act_666 : decode cL_act 666 = .ok (.iconst 1, 1) := by decide +kernel
theorem dL_act_667 : decode cL_act 667 = .ok (.iload_n 3, 1) := by decide +kernel
theorem dL_act_668 : decode cL_act 668 = .ok (.iconst 5, 1) := by decide +kernel
theorem dL_act_669 : decode cL_act 669 = .ok (.invokestatic 64, 3) := by decide +kernel
theorem dL_act_672 : decode cL_act 672 = .ok (.iadd, 1) := by decide +kernel
theorem dL_act_673 : decode cL_act 673 = .ok (.istore 8, 2) := by decide +kernel
theorem dL_act_675 : decode cL_act 675 = .ok (.aload 7, 2) := by decide +kernel
theorem dL_act_677 : decode cL_act 677 = .ok (.iconst 5, 1) := by decide +kernel
theorem dL_act_678 : decode cL_act 678 = .ok (.iaload, 1) := by decide +kernel
theorem dL_act_679 : decode cL_act 679 = .ok (.aload 7, 2) := by decide +kernel
theorem dL_act_681 : decode cL_act 681 = .ok (.bipush 6, 2) := by decide +kernel
theorem dL_act_683 : decode cL_act 683 = .ok (.iaload, 1) := by decide +kernel
theorem dL_act_684 : decode cL_act 684 = .ok (.iadd, 1) := by decide +kernel
theorem dL_act_685 : decode cL_act 685 = .ok (.istore 9, 2) := by decide +kernel
theorem dL_act_687 : decode cL_act 687 = .ok (.iconst 0, 1) := by decide +kernel
theorem dL_act_688 : decode cL_act 688 = .ok (.istore 10, 2) := by decide +kernel
theorem dL_act_690 : decode cL_act 690 = .ok (.iload 10, 2) := by decide +kernel
theorem dL_act_692 : decode cL_act 692 = .ok (.iload 8, 2) := by decide +kernel
theorem dL_act_694 : decode cL_act 694 = .ok (.if_icmp .ge 20, 3) := by decide +kernel
theorem dL_act_697 : decode cL_act 697 = .ok (.aload 4, 2) := by decide +kernel
theorem dL_act_699 : decode cL_act 699 = .ok (.aload 5, 2) := by decide +kernel
theorem dL_act_701 : decode cL_act 701 = .ok (.aload 6, 2) := by decide +kernel
theorem dL_act_703 : decode cL_act 703 = .ok (.aload 7, 2) := by decide +kernel
theorem dL_act_705 : decode cL_act 705 = .ok (.invokestatic 80, 3) := by decide +kernel
theorem dL_act_708 : decode cL_act 708 = .ok (.iinc 10 1, 3) := by decide +kernel
theorem dL_act_711 : decode cL_act 711 = .ok (.goto (-21), 3) := by decide +kernel
theorem dL_act_714 : decode cL_act 714 = .ok (.aload_n 0, 1) := by decide +kernel
theorem dL_act_715 : decode cL_act 715 = .ok (.iload 8, 2) := by decide +kernel
theorem dL_act_717 : decode cL_act 717 = .ok (.invokevirtual 103, 3) := by decide +kernel
theorem dL_act_720 : decode cL_act 720 = .ok (.aload 7, 2) := by decide +kernel
theorem dL_act_722 : decode cL_act 722 = .ok (.iconst 5, 1) := by decide +kernel
theorem dL_act_723 : decode cL_act 723 = .ok (.iaload, 1) := by decide +kernel
theorem dL_act_724 : decode cL_act 724 = .ok (.aload 7, 2) := by decide +kernel
theorem dL_act_726 : decode cL_act 726 = .ok (.bipush 6, 2) := by decide +kernel
theorem dL_act_728 : decode cL_act 728 = .ok (.iaload, 1) := by decide +kernel
theorem dL_act_729 : decode cL_act 729 = .ok (.iadd, 1) := by decide +kernel
theorem dL_act_730 : decode cL_act 730 = .ok (.iload 9, 2) := by decide +kernel
theorem dL_act_732 : decode cL_act 732 = .ok (.isub, 1) := by decide +kernel
theorem dL_act_733 : decode cL_act 733 = .ok (.if_icmp .ne 7, 3) := by decide +kernel
theorem dL_act_736 : decode cL_act 736 = .ok (.iconst 1, 1) := by decide +kernel
theorem dL_act_737 : decode cL_act 737 = .ok (.goto 4, 3) := by decide +kernel
theorem dL_act_740 : decode cL_act 740 = .ok (.iconst 0, 1) := by decide +kernel
theorem dL_act_741 : decode cL_act 741 = .ok (.ireturn, 1) := by decide +kernel
theorem dL_law_0 : decode cL_law 0 = .ok (.new 42, 3) := by decide +kernel
theorem dL_law_3 : decode cL_law 3 = .ok (.dup, 1) := by decide +kernel
theorem dL_law_4 : decode cL_law 4 = .ok (.invokespecial 106, 3) := by decide +kernel
theorem dL_law_7 : decode cL_law 7 = .ok (.astore_n 1, 1) := by decide +kernel
theorem dL_law_8 : decode cL_law 8 = .ok (.bipush 64, 2) := by decide +kernel
theorem dL_law_10 : decode cL_law 10 = .ok (.newarray .int, 2) := by decide +kernel
theorem dL_law_12 : decode cL_law 12 = .ok (.astore_n 2, 1) := by decide +kernel
theorem dL_law_13 : decode cL_law 13 = .ok (.bipush 48, 2) := by decide +kernel
theorem dL_law_15 : decode cL_law 15 = .ok (.newarray .int, 2) := by decide +kernel
theorem dL_law_17 : decode cL_law 17 = .ok (.astore_n 3, 1) := by decide +kernel
theorem dL_law_18 : decode cL_law 18 = .ok (.bipush 48, 2) := by decide +kernel
theorem dL_law_20 : decode cL_law 20 = .ok (.newarray .int, 2) := by decide +kernel
theorem dL_law_22 : decode cL_law 22 = .ok (.astore 4, 2) := by decide +kernel
theorem dL_law_24 : decode cL_law 24 = .ok (.bipush 9, 2) := by decide +kernel
theorem dL_law_26 : decode cL_law 26 = .ok (.newarray .int, 2) := by decide +kernel
theorem dL_law_28 : decode cL_law 28 = .ok (.astore 5, 2) := by decide +kernel
theorem dL_law_30 : decode cL_law 30 = .ok (.aload 5, 2) := by decide +kernel
theorem dL_law_32 : decode cL_law 32 = .ok (.bipush 8, 2) := by decide +kernel
theorem dL_law_34 : decode cL_law 34 = .ok (.bipush 63, 2) := by decide +kernel
theorem dL_law_36 : decode cL_law 36 = .ok (.iastore, 1) := by decide +kernel
theorem dL_law_37 : decode cL_law 37 = .ok (.aload_n 1, 1) := by decide +kernel
theorem dL_law_38 : decode cL_law 38 = .ok (.bipush 8, 2) := by decide +kernel
theorem dL_law_40 : decode cL_law 40 = .ok (.bipush 95, 2) := by decide +kernel
theorem dL_law_42 : decode cL_law 42 = .ok (.bipush 9, 2) := by decide +kernel
theorem dL_law_44 : decode cL_law 44 = .ok (.invokevirtual 90, 3) := by decide +kernel
theorem dL_law_47 : decode cL_law 47 = .ok (.bipush 32, 2) := by decide +kernel
theorem dL_law_49 : decode cL_law 49 = .ok (.if_icmp .ne 33, 3) := by decide +kernel
theorem dL_law_52 : decode cL_law 52 = .ok (.aload_n 1, 1) := by decide +kernel
theorem dL_law_53 : decode cL_law 53 = .ok (.iconst 1, 1) := by decide +kernel
theorem dL_law_54 : decode cL_law 54 = .ok (.bipush 63, 2) := by decide +kernel
theorem dL_law_56 : decode cL_law 56 = .ok (.invokestatic 46, 3) := by decide +kernel
theorem dL_law_59 : decode cL_law 59 = .ok (.invokevirtual 94, 3) := by decide +kernel
theorem dL_law_62 : decode cL_law 62 = .ok (.bipush 95, 2) := by decide +kernel
theorem dL_law_64 : decode cL_law 64 = .ok (.if_icmp .ne 18, 3) := by decide +kernel
theorem dL_law_67 : decode cL_law 67 = .ok (.aload_n 1, 1) := by decide +kernel
theorem dL_law_68 : decode cL_law 68 = .ok (.iconst 3, 1) := by decide +kernel
theorem dL_law_69 : decode cL_law 69 = .ok (.iconst 5, 1) := by decide +kernel
theorem dL_law_70 : decode cL_law 70 = .ok (.aload_n 2, 1) := by decide +kernel
theorem dL_law_71 : decode cL_law 71 = .ok (.aload_n 3, 1) := by decide +kernel
theorem dL_law_72 : decode cL_law 72 = .ok (.aload 4, 2) := by decide +kernel
theorem dL_law_74 : decode cL_law 74 = .ok (.aload 5, 2) := by decide +kernel
theorem dL_law_76 : decode cL_law 76 = .ok (.invokestatic 107, 3) := by decide +kernel
theorem dL_law_79 : decode cL_law 79 = .ok (.ifCond .ne 5, 3) := by decide +kernel
theorem dL_law_82 : decode cL_law 82 = .ok (.iconst 0, 1) := by decide +kernel
theorem dL_law_83 : decode cL_law 83 = .ok (.ireturn, 1) := by decide +kernel
theorem dL_law_84 : decode cL_law 84 = .ok (.iconst 0, 1) := by decide +kernel
theorem dL_law_85 : decode cL_law 85 = .ok (.istore 6, 2) := by decide +kernel
theorem dL_law_87 : decode cL_law 87 = .ok (.iload 6, 2) := by decide +kernel
theorem dL_law_89 : decode cL_law 89 = .ok (.bipush 20, 2) := by decide +kernel
theorem dL_law_91 : decode cL_law 91 = .ok (.if_icmp .ge 139, 3) := by decide +kernel
theorem dL_law_94 : decode cL_law 94 = .ok (.aload_n 0, 1) := by decide +kernel
theorem dL_law_95 : decode cL_law 95 = .ok (.iconst 2, 1) := by decide +kernel
theorem dL_law_96 : decode cL_law 96 = .ok (.iload 6, 2) := by decide +kernel
theorem dL_law_98 : decode cL_law 98 = .ok (.imul, 1) := by decide +kernel
theorem dL_law_99 : decode cL_law 99 = .ok (.invokestatic 111, 3) := by decide +kernel
theorem dL_law_102 : decode cL_law 102 = .ok (.ldc 114, 2) := by decide +kernel
theorem dL_law_104 : decode cL_law 104 = .ok (.iand, 1) := by decide +kernel
theorem dL_law_105 : decode cL_law 105 = .ok (.istore 7, 2) := by decide +kernel
theorem dL_law_107 : decode cL_law 107 = .ok (.aload_n 0, 1) := by decide +kernel
theorem dL_law_108 : decode cL_law 108 = .ok (.iconst 2, 1) := by decide +kernel
theorem dL_law_109 : decode cL_law 109 = .ok (.iload 6, 2) := by decide +kernel
theorem dL_law_111 : decode cL_law 111 = .ok (.imul, 1) := by decide +kernel
theorem dL_law_112 : decode cL_law 112 = .ok (.iconst 1, 1) := by decide +kernel
theorem dL_law_113 : decode cL_law 113 = .ok (.iadd, 1) := by decide +kernel
theorem dL_law_114 : decode cL_law 114 = .ok (.invokestatic 111, 3) := by decide +kernel
theorem dL_law_117 : decode cL_law 117 = .ok (.ldc 114, 2) := by decide +kernel
theorem dL_law_119 : decode cL_law 119 = .ok (.iand, 1) := by decide +kernel
theorem dL_law_120 : decode cL_law 120 = .ok (.istore 8, 2) := by decide +kernel
theorem dL_law_122 : decode cL_law 122 = .ok (.aload_n 1, 1) := by decide +kernel
theorem dL_law_123 : decode cL_law 123 = .ok (.iload 6, 2) := by decide +kernel
theorem dL_law_125 : decode cL_law 125 = .ok (.iconst 4, 1) := by decide +kernel
theorem dL_law_126 : decode cL_law 126 = .ok (.if_icmp .ge 7, 3) := by decide +kernel
theorem dL_law_129 : decode cL_law 129 = .ok (.iconst 4, 1) := by decide +kernel
theorem dL_law_130 : decode cL_law 130 = .ok (.goto 23, 3) := by decide +kernel
theorem dL_law_133 : decode cL_law 133 = .ok (.iload 6, 2) := by decide +kernel
theorem dL_law_135 : decode cL_law 135 = .ok (.iconst 4, 1) := by decide +kernel
theorem dL_law_136 : decode cL_law 136 = .ok (.if_icmp .ne 7, 3) := by decide +kernel
theorem dL_law_139 : decode cL_law 139 = .ok (.iconst 0, 1) := by decide +kernel
theorem dL_law_140 : decode cL_law 140 = .ok (.goto 13, 3) := by decide +kernel
theorem dL_law_143 : decode cL_law 143 = .ok (.iload 7, 2) := by decide +kernel
theorem dL_law_145 : decode cL_law 145 = .ok (.bipush 13, 2) := by decide +kernel
theorem dL_law_147 : decode cL_law 147 = .ok (.ishr, 1) := by decide +kernel
theorem dL_law_148 : decode cL_law 148 = .ok (.bipush 15, 2) := by decide +kernel
theorem dL_law_150 : decode cL_law 150 = .ok (.invokestatic 64, 3) := by decide +kernel
theorem dL_law_153 : decode cL_law 153 = .ok (.iload 7, 2) := by decide +kernel
theorem dL_law_155 : decode cL_law 155 = .ok (.iload 8, 2) := by decide +kernel
theorem dL_law_157 : decode cL_law 157 = .ok (.aload_n 2, 1) := by decide +kernel
theorem dL_law_158 : decode cL_law 158 = .ok (.aload_n 3, 1) := by decide +kernel
theorem dL_law_159 : decode cL_law 159 = .ok (.aload 4, 2) := by decide +kernel
theorem dL_law_161 : decode cL_law 161 = .ok (.aload 5, 2) := by decide +kernel
theorem dL_law_163 : decode cL_law 163 = .ok (.invokestatic 115, 3) := by decide +kernel
theorem dL_law_166 : decode cL_law 166 = .ok (.ifCond .eq 24, 3) := by decide +kernel
theorem dL_law_169 : decode cL_law 169 = .ok (.aload_n 1, 1) := by decide +kernel
theorem dL_law_170 : decode cL_law 170 = .ok (.iload 7, 2) := by decide +kernel
theorem dL_law_172 : decode cL_law 172 = .ok (.iconst 3, 1) := by decide +kernel
theorem dL_law_173 : decode cL_law 173 = .ok (.ishr, 1) := by decide +kernel
theorem dL_law_174 : decode cL_law 174 = .ok (.iload 8, 2) := by decide +kernel
theorem dL_law_176 : decode cL_law 176 = .ok (.iconst 3, 1) := by decide +kernel
theorem dL_law_177 : decode cL_law 177 = .ok (.ishr, 1) := by decide +kernel
theorem dL_law_178 : decode cL_law 178 = .ok (.aload_n 2, 1) := by decide +kernel
theorem dL_law_179 : decode cL_law 179 = .ok (.aload_n 3, 1) := by decide +kernel
theorem dL_law_180 : decode cL_law 180 = .ok (.aload 4, 2) := by decide +kernel
theorem dL_law_182 : decode cL_law 182 = .ok (.aload 5, 2) := by decide +kernel
theorem dL_law_184 : decode cL_law 184 = .ok (.invokestatic 107, 3) := by decide +kernel
theorem dL_law_187 : decode cL_law 187 = .ok (.ifCond .ne 5, 3) := by decide +kernel
theorem dL_law_190 : decode cL_law 190 = .ok (.iconst 0, 1) := by decide +kernel
theorem dL_law_191 : decode cL_law 191 = .ok (.ireturn, 1) := by decide +kernel
theorem dL_law_192 : decode cL_law 192 = .ok (.iload 6, 2) := by decide +kernel
theorem dL_law_194 : decode cL_law 194 = .ok (.bipush 6, 2) := by decide +kernel
theorem dL_law_196 : decode cL_law 196 = .ok (.irem, 1) := by decide +kernel
theorem dL_law_197 : decode cL_law 197 = .ok (.iconst 5, 1) := by decide +kernel
theorem dL_law_198 : decode cL_law 198 = .ok (.if_icmp .ne 26, 3) := by decide +kernel
theorem dL_law_201 : decode cL_law 201 = .ok (.aload_n 1, 1) := by decide +kernel
theorem dL_law_202 : decode cL_law 202 = .ok (.iload 8, 2) := by decide +kernel
theorem dL_law_204 : decode cL_law 204 = .ok (.iconst 2, 1) := by decide +kernel
theorem dL_law_205 : decode cL_law 205 = .ok (.ishr, 1) := by decide +kernel
theorem dL_law_206 : decode cL_law 206 = .ok (.iload 7, 2) := by decide +kernel
theorem dL_law_208 : decode cL_law 208 = .ok (.iconst 2, 1) := by decide +kernel
theorem dL_law_209 : decode cL_law 209 = .ok (.ishr, 1) := by decide +kernel
theorem dL_law_210 : decode cL_law 210 = .ok (.aload_n 2, 1) := by decide +kernel
theorem dL_law_211 : decode cL_law 211 = .ok (.aload_n 3, 1) := by decide +kernel
theorem dL_law_212 : decode cL_law 212 = .ok (.aload 4, 2) := by decide +kernel
theorem dL_law_214 : decode cL_law 214 = .ok (.aload 5, 2) := by decide +kernel
theorem dL_law_216 : decode cL_law 216 = .ok (.invokestatic 119, 3) := by decide +kernel
theorem dL_law_219 : decode cL_law 219 = .ok (.ifCond .ne 5, 3) := by decide +kernel
theorem dL_law_222 : decode cL_law 222 = .ok (.iconst 0, 1) := by decide +kernel
theorem dL_law_223 : decode cL_law 223 = .ok (.ireturn, 1) := by decide +kernel
theorem dL_law_224 : decode cL_law 224 = .ok (.iinc 6 1, 3) := by decide +kernel
theorem dL_law_227 : decode cL_law 227 = .ok (.goto (-140), 3) := by decide +kernel
theorem dL_law_230 : decode cL_law 230 = .ok (.aload_n 1, 1) := by decide +kernel
theorem dL_law_231 : decode cL_law 231 = .ok (.bipush 13, 2) := by decide +kernel
theorem dL_law_233 : decode cL_law 233 = .ok (.invokevirtual 58, 3) := by decide +kernel
theorem dL_law_236 : decode cL_law 236 = .ok (.ifCond .le 7, 3) := by decide +kernel
theorem dL_law_239 : decode cL_law 239 = .ok (.iconst 1, 1) := by decide +kernel
theorem dL_law_240 : decode cL_law 240 = .ok (.goto 4, 3) := by decide +kernel
theorem dL_law_243 : decode cL_law 243 = .ok (.iconst 0, 1) := by decide +kernel
theorem dL_law_244 : decode cL_law 244 = .ok (.ireturn, 1) := by decide +kernel
end
section
/-! ===== the abstract machine: numbers are Int (checked to be in the range of 32 bits), references are places of one world, whose cell k lies at the address B + k ===== -/
abbrev amV : Type := Int ⊕ (Option Nat ⊕ (Int64 ⊕ (UInt64 ⊕ Nat)))
abbrev aI (x : Int) : amV := Sum.inl x
abbrev aR (r : Option Nat) : amV := Sum.inr (Sum.inl r)
abbrev aL (x : Int64) : amV := Sum.inr (Sum.inr (Sum.inl x))
abbrev aD (x : UInt64) : amV := Sum.inr (Sum.inr (Sum.inr (Sum.inl x)))
/-- an address outside the world: the script, an exception -/
abbrev aO (a : Nat) : amV := Sum.inr (Sum.inr (Sum.inr (Sum.inr a)))
def amIn (x : Int) : Prop := -2147483648 ≤ x ∧ x ≤ 2147483647
def amRv (B : Nat) : amV → Value
  | Sum.inl x => .int (Int32.ofInt x)
  | Sum.inr (Sum.inl none) => .null
  | Sum.inr (Sum.inl (some a)) => .ref (B + a)
  | Sum.inr (Sum.inr (Sum.inl x)) => .long x
  | Sum.inr (Sum.inr (Sum.inr (Sum.inl x))) => .double x
  | Sum.inr (Sum.inr (Sum.inr (Sum.inr a))) => .ref a
def amOk : amV → Prop
  | Sum.inl x => amIn x
  | _ => True
def amCat : amV → Nat
  | Sum.inr (Sum.inr (Sum.inl _)) => 2
  | Sum.inr (Sum.inr (Sum.inr (Sum.inl _))) => 2
  | _ => 1
/-- numbers, references, longs, the kinds of the cells, how many cells lie behind the world, how many cells and slots may still come -/
abbrev amH : Type := (Nat → Nat → Int) × (Nat → Nat → Option Nat) × (Nat → Nat → Int64) × List (Nat × Nat) × Nat × Nat × Nat
abbrev hI (h : amH) : Nat → Nat → Int := h.1
abbrev hR (h : amH) : Nat → Nat → Option Nat := h.2.1
abbrev hL (h : amH) : Nat → Nat → Int64 := h.2.2.1
abbrev hS (h : amH) : List (Nat × Nat) := h.2.2.2.1
abbrev hX (h : amH) : Nat := h.2.2.2.2.1
abbrev hC (h : amH) : Nat := h.2.2.2.2.2.1
abbrev hT (h : amH) : Nat := h.2.2.2.2.2.2
abbrev hGive (h : amH) (c t : Nat) : amH := (h.1, h.2.1, h.2.2.1, h.2.2.2.1, h.2.2.2.2.1, c, t)
def u2 {α : Type} (f : Nat → Nat → α) (a k : Nat) (v : α) : Nat → Nat → α := fun x y => if x = a ∧ y = k then v else f x y
theorem u2_same {α : Type} (f : Nat → Nat → α) (a k : Nat) (v : α) : u2 f a k v a k = v := by simp [u2]
theorem u2_ne {α : Type} (f : Nat → Nat → α) {a k x y : Nat} (v : α) (h : ¬ (x = a ∧ y = k)) : u2 f a k v x y = f x y := by simp [u2, h]
abbrev hPutI (h : amH) (a k : Nat) (v : Int) : amH := (u2 h.1 a k v, h.2)
abbrev hPutR (h : amH) (a k : Nat) (v : Option Nat) : amH := (h.1, u2 h.2.1 a k v, h.2.2)
abbrev hPutL (h : amH) (a k : Nat) (v : Int64) : amH := (h.1, h.2.1, u2 h.2.2.1 a k v, h.2.2.2)
/-- a new cell: its numbers 0, its references null, its longs 0 -/
def u1 {α : Type} (f : Nat → Nat → α) (a : Nat) (v : α) : Nat → Nat → α := fun x y => if x = a then v else f x y
abbrev hNew (h : amH) (s : Nat × Nat) (t : Nat) : amH := (u1 h.1 h.2.2.2.1.length 0, u1 h.2.1 h.2.2.2.1.length none, u1 h.2.2.1 h.2.2.2.1.length 0, h.2.2.2.1 ++ [s], h.2.2.2.2.1, h.2.2.2.2.2.1 - 1, h.2.2.2.2.2.2 - t)
/-- a cell behind the world (an exception) -/
abbrev hThrow (h : amH) : amH := (h.1, h.2.1, h.2.2.1, h.2.2.2.1, h.2.2.2.2.1 + 1, h.2.2.2.2.2.1 - 1, h.2.2.2.2.2.2 - 6)
/-- numbers copied from row to row -/
def uCpy (f : Nat → Nat → Int) (a sp b dp n : Nat) : Nat → Nat → Int := fun x y => if x = b ∧ dp ≤ y ∧ y < dp + n then f a (sp + (y - dp)) else f x y
/-- the kinds of a class' fields: 0 a number, 1 a reference, 2 a long -/
def amF : Nat → List Nat
  | 0 => [1, 1]
  | 1 => [1, 0]
  | 2 => [1]
  | 3 => [0, 0, 0, 0]
  | 4 => [1, 1, 1]
  | 5 => [1]
  | 6 => [1, 0, 1, 1]
  | 7 => [0, 0, 0, 0, 0, 0, 0, 0]
  | 8 => [1, 1, 1, 0, 1, 0, 0, 0, 0, 1]
  | 9 => [1, 1, 1, 1, 1, 1]
  | _ => []
def amFT : Nat → Nat → FieldType
  | 0 => tyX0 | 1 => tyX1 | 2 => tyX2 | 3 => tyX3 | 4 => tyX4 | 5 => tyX5 | 6 => tyX6 | 7 => tyX7 | 8 => tyX8 | _ => tyX9
def amAK : Nat → FieldType
  | 20 => .int | 21 => .int | 22 => .object RX7 | 23 => .object RX3 | _ => .object RX8
def amVal (B : Nat) (h : amH) (t a k : Nat) : Value := match t with
  | 0 => .int (Int32.ofInt (hI h a k))
  | 1 => va_rf ((hR h a k).map (B + ·))
  | _ => .long (hL h a k)
def amFs (B : Nat) (h : amH) (ci a : Nat) : List Value := (amF ci).zipIdx.map (fun q => amVal B h q.1 a q.2)
def amCell (B : Nat) (cA : Nat → ClassId) (h : amH) (a : Nat) (s : Nat × Nat) : va_E :=
  if s.1 < 11 then .inr (s.1, amFs B h s.1 a)
  else if s.1 = 20 then .inl (cA 20, s.2, .inl (fun j => Int32.ofInt (hI h a j)))
  else if s.1 = 21 then .inl (cA 21, s.2, .inr (.inl (fun j => hL h a j)))
  else .inl (cA s.1, s.2, .inr (.inr (.inr (.inr (fun j => (hR h a j).map (B + ·))))))
def amWs (B : Nat) (cA : Nat → ClassId) (h : amH) : va_W := (hS h).zipIdx.map (fun q => (B + q.2, amCell B cA h q.2 q.1))
/-- the launch, the law's start, the script's address, length and ints, the classes as the tables have them, the arrays' classes -/
abbrev amG : Type := Launch × State × Nat × Nat × (Nat → Int32) × va_G × (Nat → ClassId)
abbrev gl (G : amG) : Launch := G.1
abbrev gs (G : amG) : State := G.2.1
abbrev gb (G : amG) : Nat := G.2.2.1
abbrev gn (G : amG) : Nat := G.2.2.2.1
abbrev gx (G : amG) : Nat → Int32 := G.2.2.2.2.1
abbrev gD (G : amG) : va_G := G.2.2.2.2.2.1
abbrev gA (G : amG) : Nat → ClassId := G.2.2.2.2.2.2
abbrev gB (G : amG) : Nat := (gs G).heap.size
def amTys (G : amG) : List (ClassId × FieldType) := [20, 21, 22, 23, 24].map (fun k => (gA G k, amAK k))
def amRel (G : amG) (h : amH) (H : Heap) : Prop :=
  va_P (gD G) vwCl (amWs (gB G) (gA G) h) H ∧ (∀ a k : Nat, amIn (hI h a k)) ∧ (∀ q : Nat, q < gB G → H[q]? = (gs G).heap[q]?) ∧ gB G + (hS h).length ≤ H.size ∧ (hX h = 0 → H.size = gB G + (hS h).length)
def amG0 (G : amG) : Prop :=
  (gl G).stackTraces = false ∧ (∀ w ∈ lw_tbl, w.before #[Value.ref (gb G)] (gs G) = true) ∧ va_K (gD G) vwCl (amTys G) (gs G) ∧ va_X (gb G) (gn G) (gx G) (gs G) (gs G).heap ∧ gb G < gB G ∧ gn G ≤ 2048 ∧
  vx_Zq Bundle.tN "UNASSIGNED_STACK" Bundle.steD (fun q => gB G ≤ q) (gs G) (gs G).heap ∧ vx_Zq Bundle.tN "SUPPRESSED_SENTINEL" Bundle.listD (fun q => gB G ≤ q) (gs G) (gs G).heap ∧
  (∀ own k tx, Cond.stringRef own k tx ∈ lw_tbl → ∃ a, vk_R own k tx a (gs G)) ∧
  (∀ C T, (C, T) ∈ ([("java/lang/IndexOutOfBoundsException", "java/lang/IllegalArgumentException"), ("java/lang/IndexOutOfBoundsException", "java/lang/IllegalStateException"), ("java/lang/IllegalArgumentException", "java/lang/IllegalStateException"), ("java/lang/IllegalArgumentException", "java/lang/IndexOutOfBoundsException"), ("java/lang/IllegalStateException", "java/lang/IndexOutOfBoundsException"), ("java/lang/IllegalStateException", "java/lang/IllegalArgumentException")] : List (String × String)) → va_Nc C T (gs G))
/-- a method by its contract's side: its name, bytes, locals, what it returns, its table; frames, words of locals, cells and slots that it may take -/
abbrev amS : Type := MethodName × ByteArray × Nat × Option FieldType × List (Nat × Nat × Nat × Nat) × Nat × Nat × Nat × Nat
abbrev sy (S : amS) : MethodName := S.1
abbrev sb (S : amS) : ByteArray := S.2.1
abbrev sm (S : amS) : Nat := S.2.2.1
abbrev sr (S : amS) : Option FieldType := S.2.2.2.1
abbrev sh (S : amS) : List (Nat × Nat × Nat × Nat) := S.2.2.2.2.1
abbrev sf (S : amS) : Nat := S.2.2.2.2.2.1
abbrev sl (S : amS) : Nat := S.2.2.2.2.2.2.1
abbrev sc (S : amS) : Nat := S.2.2.2.2.2.2.2.1
abbrev st (S : amS) : Nat := S.2.2.2.2.2.2.2.2
def amCode (S : amS) : Cond := match sh S with
  | [] => .code (sy S) (sb S) (sm S) (sr S)
  | _ => .codeWith (sy S) (sb S) (sm S) (sr S) (sh S)
/-- what comes back: a value or none; or an exception, by its number -/
abbrev amR : Type := Option amV ⊕ Nat
def amEx : Nat → String
  | 0 => "java/lang/IndexOutOfBoundsException"
  | 1 => "java/lang/IllegalArgumentException"
  | _ => "java/lang/IllegalStateException"
def amPc (G : amG) (as : List amV) (h : amH) : Array Value → State → Prop := va_Pc (as.map (amRv (gB G))) (fun U => (∀ v ∈ as, amOk v) ∧ (gs G).WarmedH U.vm ∧ amRel G h U.heap)
def amQ (G : amG) (Q : amR → amH → Prop) : Array Value → State → Outcome → State → Prop := fun _ u o t =>
  ∃ (r : Option amV) (h : amH), Q (Sum.inl r) h ∧ (∀ v, r = some v → amOk v) ∧ o = .returned (r.map (amRv (gB G))) ∧ amRel G h t.heap ∧ u.heap.size ≤ t.heap.size
def amXC (G : amG) (Q : amR → amH → Prop) : String → State → State → Prop := fun E u t =>
  ∃ (j : Nat) (h : amH), Q (Sum.inr j) h ∧ E = amEx j ∧ j < 3 ∧ amRel G h t.heap ∧ u.heap.size ≤ t.heap.size
/-- THE CONTRACT of a method at its arguments and a world -/
def CT (G : amG) (S : amS) (as : List amV) (h : amH) (Q : amR → amH → Prop) : Prop :=
  vx_Met (gl G) (sy S) [amCode S] { frames := sf S, cells := sc S, slots := st S, locals := sl S } (amPc G as (hGive h (sc S) (st S))) (amQ G Q) (amXC G Q) (sc S) (st S) (fun q => gB G ≤ q)
/-- an instruction: its place, itself, its length; numbers (which class, which field ..), the callee -/
abbrev amE : Type := Nat × Instr × Nat × (Nat × Nat × Nat) × Option amS
/-- a method: by its contract's side, its class, its blocks -/
abbrev amM : Type := amS × String × List (Nat × List amE)
def amGet : List (Option amV) → Nat → Option amV
  | [], _ => none
  | a :: _, 0 => a
  | _ :: l, n + 1 => amGet l n
def amSet : List (Option amV) → Nat → Option amV → List (Option amV)
  | [], _, _ => []
  | _ :: l, 0, v => v :: l
  | a :: l, n + 1, v => a :: amSet l n v
/-- a store takes away the long that reaches into its place -/
def amCut (ls : List (Option amV)) : Nat → List (Option amV)
  | 0 => ls
  | j + 1 => match amGet ls j with
    | some w => if amCat w = 2 then amSet ls j none else ls
    | none => ls
def amSt1 (ls : List (Option amV)) (i : Nat) (v : amV) : List (Option amV) := amSet (amCut ls i) i (some v)
def amSt2 (ls : List (Option amV)) (i : Nat) (v : amV) : List (Option amV) := amSet (amSet (amCut ls i) i (some v)) (i + 1) none
def amLs (B : Nat) (nL : Nat) (ls : List (Option amV)) (LS : Array Slot) : Prop := LS.size = nL ∧ lv_wf LS ∧ ls.length = nL ∧ ∀ (i : Nat) (v : amV), amGet ls i = some v → LS[i]? = some (.val (amRv B v)) ∧ amOk v
/-- what is at hand inside a method's body -/
def amCtx (G : amG) (M : amM) (p : Program) (R : Room) (s : State) (m : MethodId) (meth : Method) (c : Code) : Prop :=
  p.tables.exec = Jvm.exec ∧ c.code = sb M.1 ∧ c.maxLocals = sm M.1 ∧ meth.sig.returnType = sr M.1 ∧ meth.locks = false ∧ s.vm.findClass M.2.1 = some m.cls ∧ (gs G).WarmedH s.vm ∧ gB G ≤ s.heap.size ∧
  c.exceptionTable.toList.map (fun x => (x.startPc, x.endPc, x.handlerPc, x.catchType)) = sh M.1 ∧ sf M.1 ≤ R.frames ∧ sl M.1 ≤ R.locals ∧ ((sy M.1).name = "<init>" → meth.name = "<init>") ∧ (∀ q : Nat, q < gB G → s.heap[q]? = (gs G).heap[q]?)
end
section
/-! ===== one instruction of the abstract machine: what must hold before it, by what must hold behind it ===== -/
def amCmp : Jvm.ClassFile.Cond → Int → Int → Prop
  | .eq, x, y => x = y
  | .ne, x, y => x ≠ y
  | .lt, x, y => x < y
  | .ge, x, y => y ≤ x
  | .gt, x, y => y < x
  | .le, x, y => x ≤ y
abbrev amJ (pc : Nat) (off : Int) : Nat := ((pc : Int) + off).toNat
def amSw (pc : Nat) (J : Nat → Prop) (x : Int) : Int → List Int → Prop
  | _, [] => True
  | lo, off :: l => (x = lo → J (amJ pc off)) ∧ amSw pc J x (lo + 1) l
def amPop : Nat → List amV → Option (List amV × List amV)
  | 0, sk => some ([], sk)
  | n + 1, v :: sk => match amPop n sk with
    | some (as, r) => some (as ++ [v], r)
    | none => none
  | _ + 1, [] => none
def amAC : Nat → Nat
  | 22 => 7 | 23 => 3 | _ => 8
abbrev amK1 : Type := List (Option amV) → List amV → amH → Prop
abbrev amJ1 : Type := Nat → List (Option amV) → List amV → amH → Prop
def amLdI (K : amV → Prop) : Option amV → Prop
  | some (Sum.inl x) => K (aI x)
  | _ => False
def amLdR (K : amV → Prop) : Option amV → Prop
  | some (Sum.inr (Sum.inl (some a))) => K (aR (some a))
  | some (Sum.inr (Sum.inr (Sum.inr (Sum.inr a)))) => K (aO a)
  | _ => False
def amLdL (K : amV → Prop) : Option amV → Prop
  | some (Sum.inr (Sum.inr (Sum.inl x))) => K (aL x)
  | _ => False
def amLdD (K : amV → Prop) : Option amV → Prop
  | some (Sum.inr (Sum.inr (Sum.inr (Sum.inl x)))) => K (aD x)
  | _ => False
def amStI (K : amV → List amV → Prop) : List amV → Prop
  | Sum.inl x :: r => K (aI x) r
  | _ => False
def amStR (K : amV → List amV → Prop) : List amV → Prop
  | Sum.inr (Sum.inl (some a)) :: r => K (aR (some a)) r
  | Sum.inr (Sum.inr (Sum.inr (Sum.inr a))) :: r => K (aO a) r
  | _ => False
def amStL (K : amV → List amV → Prop) : List amV → Prop
  | Sum.inr (Sum.inr (Sum.inl x)) :: r => K (aL x) r
  | _ => False
def amStD (K : amV → List amV → Prop) : List amV → Prop
  | Sum.inr (Sum.inr (Sum.inr (Sum.inl x))) :: r => K (aD x) r
  | _ => False
def am2I (K : Int → Int → List amV → Prop) : List amV → Prop
  | Sum.inl y :: Sum.inl x :: r => K x y r
  | _ => False
def am1I (K : Int → List amV → Prop) : List amV → Prop
  | Sum.inl x :: r => K x r
  | _ => False
def am2L (K : Int64 → Int64 → List amV → Prop) : List amV → Prop
  | Sum.inr (Sum.inr (Sum.inl y)) :: Sum.inr (Sum.inr (Sum.inl x)) :: r => K x y r
  | _ => False
def am2D (K : UInt64 → UInt64 → List amV → Prop) : List amV → Prop
  | Sum.inr (Sum.inr (Sum.inr (Sum.inl y))) :: Sum.inr (Sum.inr (Sum.inr (Sum.inl x))) :: r => K x y r
  | _ => False
def amGetF (t : Nat) (ci k : Nat) (h : amH) (K : List amV → Prop) : List amV → Prop
  | Sum.inr (Sum.inl (some a)) :: r => (hS h)[a]? = some (ci, 0) ∧ (match t with
    | 0 => K (aI (hI h a k) :: r)
    | 1 => ∃ b : Nat, hR h a k = some b ∧ K (aR (some b) :: r)
    | _ => K (aL (hL h a k) :: r))
  | _ => False
def amPutF (t : Nat) (ci k : Nat) (h : amH) (K : List amV → amH → Prop) : List amV → Prop
  | Sum.inl x :: Sum.inr (Sum.inl (some a)) :: r => (match t with
    | 0 => (hS h)[a]? = some (ci, 0) ∧ K r (hPutI h a k x)
    | _ => False)
  | Sum.inr (Sum.inl v) :: Sum.inr (Sum.inl (some a)) :: r => (match t with
    | 1 => (hS h)[a]? = some (ci, 0) ∧ K r (hPutR h a k v)
    | _ => False)
  | Sum.inr (Sum.inr (Sum.inl x)) :: Sum.inr (Sum.inl (some a)) :: r => (match t with
    | 2 => (hS h)[a]? = some (ci, 0) ∧ K r (hPutL h a k x)
    | _ => False)
  | _ => False
def amLen (G : amG) (h : amH) (K : List amV → Prop) : List amV → Prop
  | Sum.inr (Sum.inl (some a)) :: r => ∃ kd n : Nat, (hS h)[a]? = some (kd, n) ∧ (20 ≤ kd ∧ kd ≤ 24 ∧ n ≤ 2147483647) ∧ K (aI n :: r)
  | Sum.inr (Sum.inr (Sum.inr (Sum.inr a))) :: r => a = gb G ∧ K (aI (gn G) :: r)
  | _ => False
def amIald (G : amG) (h : amH) (K : List amV → Prop) : List amV → Prop
  | Sum.inl i :: Sum.inr (Sum.inl (some a)) :: r => ∃ n : Nat, (hS h)[a]? = some (20, n) ∧ (0 ≤ i ∧ i < n) ∧ K (aI (hI h a i.toNat) :: r)
  | Sum.inl i :: Sum.inr (Sum.inr (Sum.inr (Sum.inr a))) :: r => a = gb G ∧ (0 ≤ i ∧ i < gn G) ∧ K (aI (gx G i.toNat).toInt :: r)
  | _ => False
def amIast (h : amH) (K : List amV → amH → Prop) : List amV → Prop
  | Sum.inl x :: Sum.inl i :: Sum.inr (Sum.inl (some a)) :: r => ∃ n : Nat, (hS h)[a]? = some (20, n) ∧ (0 ≤ i ∧ i < n) ∧ K r (hPutI h a i.toNat x)
  | _ => False
def amLald (h : amH) (K : List amV → Prop) : List amV → Prop
  | Sum.inl i :: Sum.inr (Sum.inl (some a)) :: r => ∃ n : Nat, (hS h)[a]? = some (21, n) ∧ (0 ≤ i ∧ i < n) ∧ K (aL (hL h a i.toNat) :: r)
  | _ => False
def amLast (h : amH) (K : List amV → amH → Prop) : List amV → Prop
  | Sum.inr (Sum.inr (Sum.inl x)) :: Sum.inl i :: Sum.inr (Sum.inl (some a)) :: r => ∃ n : Nat, (hS h)[a]? = some (21, n) ∧ (0 ≤ i ∧ i < n) ∧ K r (hPutL h a i.toNat x)
  | _ => False
def amAald (h : amH) (K : List amV → Prop) : List amV → Prop
  | Sum.inl i :: Sum.inr (Sum.inl (some a)) :: r => ∃ kd n : Nat, (hS h)[a]? = some (kd, n) ∧ (22 ≤ kd ∧ kd ≤ 24) ∧ (0 ≤ i ∧ i < n) ∧ ∃ b : Nat, hR h a i.toNat = some b ∧ K (aR (some b) :: r)
  | _ => False
def amAast (h : amH) (K : List amV → amH → Prop) : List amV → Prop
  | Sum.inr (Sum.inl (some v)) :: Sum.inl i :: Sum.inr (Sum.inl (some a)) :: r => ∃ kd n : Nat, (hS h)[a]? = some (kd, n) ∧ (22 ≤ kd ∧ kd ≤ 24) ∧ (hS h)[v]? = some (amAC kd, 0) ∧ (0 ≤ i ∧ i < n) ∧ K r (hPutR h a i.toNat (some v))
  | _ => False
def amNewA (kd : Nat) (h : amH) (K : List amV → amH → Prop) : List amV → Prop
  | Sum.inl n :: r => (0 ≤ n ∧ n ≤ 100000 ∧ 1 ≤ hC h ∧ n.toNat ≤ hT h ∧ hX h = 0) ∧ K (aR (some (hS h).length) :: r) (hNew h (kd, n.toNat) n.toNat)
  | _ => False
def amDup (K : List amV → Prop) : List amV → Prop
  | v :: r => amCat v = 1 ∧ K (v :: v :: r)
  | _ => False
def amDup2 (K : List amV → Prop) : List amV → Prop
  | v :: w :: r => (amCat v = 1 ∧ amCat w = 1) ∧ K (v :: w :: v :: w :: r)
  | _ => False
def amDupX2 (K : List amV → Prop) : List amV → Prop
  | v :: w :: u :: r => (amCat v = 1 ∧ amCat w = 1 ∧ amCat u = 1) ∧ K (v :: w :: u :: v :: r)
  | _ => False
def amPop1 (K : List amV → Prop) : List amV → Prop
  | v :: r => amCat v = 1 ∧ K r
  | _ => False
/-- the receiver of a virtual call is an object of the class ci -/
def amRecv (h : amH) (ci : Nat) : List amV → Prop
  | Sum.inr (Sum.inl (some a)) :: _ => (hS h)[a]? = some (ci, 0)
  | _ => False
/-- a receiver that is a cell of the world -/
def amSelf : List amV → Prop
  | Sum.inr (Sum.inl (some _)) :: _ => True
  | _ => False
def amCatch (j pc : Nat) : List (Nat × Nat × Nat × Nat) → List Nat → Option Nat
  | (a, b, t, _) :: l, k :: ks => if a ≤ pc ∧ pc < b ∧ k = j then some t else amCatch j pc l ks
  | _, _ => none
/-- what the classes of a method's table are, by their numbers: the law's wrappers name them in this order -/
def amHk (S : amS) : List Nat := match (sh S).length with
  | 0 => []
  | 1 => if (sy S).name = "load" ∨ (sy S).name = "count" ∨ (sy S).name = "ifPassed" then [1] else if (sy S).name = "undo" then [2] else [0]
  | 2 => if (sy S).name = "pass" ∨ (sy S).name = "append" then [1, 2] else if (sy S).name = "order" then [0, 2] else [0, 1]
  | _ => [0, 1, 2]
/-- what lies below a call's arguments is small -/
def amW8 (r : List amV) : Prop := (r.map amCat).sum ≤ 8
/-- behind a call: it came back, or it threw -/
def amAf (M : amM) (Q : amR → amH → Prop) (S : amS) (pc : Nat) (K : amK1) (J : amJ1) (ls : List (Option amV)) (r : List amV) (h : amH) : amR → amH → Prop := fun o h1 => match o with
  | Sum.inl none => sr S = none ∧ K ls r (hGive h1 (hC h - sc S) (hT h - st S))
  | Sum.inl (some v) => sr S ≠ none ∧ K ls (v :: r) (hGive h1 (hC h - sc S) (hT h - st S))
  | Sum.inr j => match sh M.1 with
    | [] => Q (Sum.inr j) (hGive h1 (hC h - sc S) (hT h - st S))
    | _ => match amCatch j pc (sh M.1) (amHk M.1) with
      | some t => ∀ q : Nat, J t ls [aO q] (hGive h1 (hC h - sc S) (hT h - st S))
      | none => False
def amCall (G : amG) (M : amM) (Q : amR → amH → Prop) (pc ci kind n : Nat) (S : amS) (K : amK1) (J : amJ1) (ls : List (Option amV)) (h : amH) : Option (List amV × List amV) → Prop
  | some (as, r) => (sc S ≤ hC h ∧ st S ≤ hT h ∧ amW8 r) ∧ (match kind with
      | 0 => amRecv h ci as
      | 3 => amRecv h ci as
      | 1 => True
      | 4 => True
      | _ => amSelf as) ∧
      CT G S as h (amAf M Q S pc K J ls r h)
  | none => False
def amCopy (h : amH) (K : List amV → amH → Prop) : List amV → Prop
  | Sum.inl n :: Sum.inl dp :: Sum.inr (Sum.inl (some b)) :: Sum.inl sp :: Sum.inr (Sum.inl (some a)) :: r =>
    ∃ n0 n1 : Nat, (hS h)[a]? = some (20, n0) ∧ (hS h)[b]? = some (20, n1) ∧ (0 ≤ n ∧ 0 ≤ sp ∧ 0 ≤ dp ∧ sp + n ≤ n0 ∧ dp + n ≤ n1 ∧ n0 ≤ 100000 ∧ n1 ≤ 100000 ∧ amW8 r) ∧ K r (uCpy h.1 a sp.toNat b dp.toNat n.toNat, h.2.1, h.2.2.1, h.2.2.2.1, h.2.2.2.2.1, h.2.2.2.2.2)
  | _ => False
def amStep (G : amG) (M : amM) (Q : amR → amH → Prop) (e : amE) (K : amK1) (J : amJ1) (ls : List (Option amV)) (sk : List amV) (h : amH) : Prop :=
  match e.2.1 with
  | .iload_n k => amLdI (fun v => K ls (v :: sk) h) (amGet ls k.val)
  | .iload k => amLdI (fun v => K ls (v :: sk) h) (amGet ls k)
  | .aload_n k => amLdR (fun v => K ls (v :: sk) h) (amGet ls k.val)
  | .aload k => amLdR (fun v => K ls (v :: sk) h) (amGet ls k)
  | .lload_n k => amLdL (fun v => K ls (v :: sk) h) (amGet ls k.val)
  | .lload k => amLdL (fun v => K ls (v :: sk) h) (amGet ls k)
  | .dload_n k => amLdD (fun v => K ls (v :: sk) h) (amGet ls k.val)
  | .dload k => amLdD (fun v => K ls (v :: sk) h) (amGet ls k)
  | .istore_n k => amStI (fun v r => K (amSt1 ls k.val v) r h) sk
  | .istore k => amStI (fun v r => K (amSt1 ls k v) r h) sk
  | .astore_n k => amStR (fun v r => K (amSt1 ls k.val v) r h) sk
  | .astore k => amStR (fun v r => K (amSt1 ls k v) r h) sk
  | .lstore_n k => amStL (fun v r => K (amSt2 ls k.val v) r h) sk
  | .lstore k => amStL (fun v r => K (amSt2 ls k v) r h) sk
  | .dstore_n k => amStD (fun v r => K (amSt2 ls k.val v) r h) sk
  | .dstore k => amStD (fun v r => K (amSt2 ls k v) r h) sk
  | .iinc k n => amLdI (fun v => match v with
      | Sum.inl x => amIn (x + n) ∧ K (amSt1 ls k (aI (x + n))) sk h
      | _ => False) (amGet ls k)
  | .iconst n => K ls (aI n :: sk) h
  | .bipush n => K ls (aI n :: sk) h
  | .sipush n => K ls (aI n :: sk) h
  | .lconst n => K ls (aL (Int64.ofNat n.val) :: sk) h
  | .dconst n => match n with
    | 0 => K ls (aD FP.dconst0 :: sk) h
    | 1 => K ls (aD FP.dconst1 :: sk) h
  | .ldc2_w _ => match e.2.2.2.1.1 with
    | 0 => K ls (aL (Int64.ofNat e.2.2.2.1.2.1) :: sk) h
    | _ => K ls (aD (UInt64.ofNat e.2.2.2.1.2.1) :: sk) h
  | .iadd => am2I (fun x y r => amIn (x + y) ∧ K ls (aI (x + y) :: r) h) sk
  | .isub => am2I (fun x y r => amIn (x - y) ∧ K ls (aI (x - y) :: r) h) sk
  | .imul => am2I (fun x y r => amIn (x * y) ∧ K ls (aI (x * y) :: r) h) sk
  | .idiv => am2I (fun x y r => (y ≠ 0 ∧ amIn (Int.tdiv x y)) ∧ K ls (aI (Int.tdiv x y) :: r) h) sk
  | .irem => am2I (fun x y r => (y ≠ 0 ∧ amIn (Int.tdiv x y)) ∧ K ls (aI (Int.tmod x y) :: r) h) sk
  | .ineg => am1I (fun x r => amIn (-x) ∧ K ls (aI (-x) :: r) h) sk
  | .iand => am2I (fun x y r => K ls (aI (Int32.ofInt x &&& Int32.ofInt y).toInt :: r) h) sk
  | .ior => am2I (fun x y r => K ls (aI (Int32.ofInt x ||| Int32.ofInt y).toInt :: r) h) sk
  | .ishl => am2I (fun x y r => K ls (aI (Int32.ofInt x <<< (Int32.ofInt y &&& 31)).toInt :: r) h) sk
  | .ishr => am2I (fun x y r => K ls (aI (Int32.ofInt x >>> (Int32.ofInt y &&& 31)).toInt :: r) h) sk
  | .iushr => am2I (fun x y r => K ls (aI ((Int32.ofInt x).toUInt32 >>> ((Int32.ofInt y).toUInt32 &&& Int32.toUInt32 31)).toInt32.toInt :: r) h) sk
  | .ldc _ => K ls (aI (e.2.2.2.1.1 : Nat) :: sk) h
  | .i2l => am1I (fun x r => K ls (aL (Int64.ofInt x) :: r) h) sk
  | .i2d => am1I (fun x r => K ls (aD (FP.i2d (Int32.ofInt x)) :: r) h) sk
  | .ladd => am2L (fun x y r => K ls (aL (x + y) :: r) h) sk
  | .lsub => am2L (fun x y r => K ls (aL (x - y) :: r) h) sk
  | .lmul => am2L (fun x y r => K ls (aL (x * y) :: r) h) sk
  | .lor => am2L (fun x y r => K ls (aL (x ||| y) :: r) h) sk
  | .lcmp => am2L (fun x y r => K ls (aI (lg_cmp x y).toInt :: r) h) sk
  | .lshl => am1I (fun y r => amStL (fun v r => match v with
      | Sum.inr (Sum.inr (Sum.inl x)) => K ls (aL (x <<< ((Int32.ofInt y).toInt64 &&& 63)) :: r) h
      | _ => False) r) sk
  | .dmul => am2D (fun x y r => vf_n64 (FP.dmul x y) ∧ K ls (aD (FP.dmul x y) :: r) h) sk
  | .ddiv => am2D (fun x y r => vf_n64 (FP.ddiv x y) ∧ K ls (aD (FP.ddiv x y) :: r) h) sk
  | .dsub => am2D (fun x y r => vf_n64 (FP.dsub x y) ∧ K ls (aD (FP.dsub x y) :: r) h) sk
  | .dcmp op => am2D (fun x y r => K ls (aI (Op.cmpValue (FP.dcmp x y) op).toInt :: r) h) sk
  | .d2l => amStD (fun v r => match v with
      | Sum.inr (Sum.inr (Sum.inr (Sum.inl x))) => K ls (aL (FP.d2l x) :: r) h
      | _ => False) sk
  | .dup => amDup (fun r => K ls r h) sk
  | .dup2 => amDup2 (fun r => K ls r h) sk
  | .dup_x2 => amDupX2 (fun r => K ls r h) sk
  | .pop => amPop1 (fun r => K ls r h) sk
  | .nop => J e.1 ls sk h
  | .goto off => J (amJ e.1 off) ls sk h
  | .ifCond cc off => am1I (fun x r => (amCmp cc x 0 → J (amJ e.1 off) ls r h) ∧ (¬ amCmp cc x 0 → K ls r h)) sk
  | .if_icmp cc off => am2I (fun x y r => (amCmp cc x y → J (amJ e.1 off) ls r h) ∧ (¬ amCmp cc x y → K ls r h)) sk
  | .tableswitch dflt lo hi offs => am1I (fun x r => ((x < lo ∨ hi < x) → J (amJ e.1 dflt) ls r h) ∧ amSw e.1 (fun t => J t ls r h) x lo offs.toList) sk
  | .getfield _ => amGetF e.2.2.2.1.2.2 e.2.2.2.1.1 e.2.2.2.1.2.1 h (fun r => K ls r h) sk
  | .putfield _ => amPutF e.2.2.2.1.2.2 e.2.2.2.1.1 e.2.2.2.1.2.1 h (fun r h => K ls r h) sk
  | .arraylength => amLen G h (fun r => K ls r h) sk
  | .iaload => amIald G h (fun r => K ls r h) sk
  | .iastore => amIast h (fun r h => K ls r h) sk
  | .aaload => amAald h (fun r => K ls r h) sk
  | .aastore => amAast h (fun r h => K ls r h) sk
  | .newarray _ => amNewA e.2.2.2.1.1 h (fun r h => K ls r h) sk
  | .anewarray _ => amNewA e.2.2.2.1.1 h (fun r h => K ls r h) sk
  | .new _ => if e.2.2.2.1.1 < 100
      then (1 ≤ hC h ∧ e.2.2.2.1.2.1 ≤ hT h ∧ hX h = 0) ∧ K ls (aR (some (hS h).length) :: sk) (hNew h (e.2.2.2.1.1, 0) e.2.2.2.1.2.1)
      else (1 ≤ hC h ∧ 6 ≤ hT h ∧ amW8 sk) ∧ Q (Sum.inr (e.2.2.2.1.1 - 100)) (hThrow h)
  | .invokevirtual _ => match e.2.2.2.2 with
    | some S => amCall G M Q e.1 e.2.2.2.1.2.2 e.2.2.2.1.2.1 e.2.2.2.1.1 S K J ls h (amPop e.2.2.2.1.1 sk)
    | none => False
  | .invokestatic _ => match e.2.2.2.2 with
    | some S => amCall G M Q e.1 e.2.2.2.1.2.2 e.2.2.2.1.2.1 e.2.2.2.1.1 S K J ls h (amPop e.2.2.2.1.1 sk)
    | none => match e.2.2.2.1.2.1 with
      | 10 => am1I (fun x r => (amIn (-x) ∧ amW8 r) ∧ K ls (aI (if x < 0 then -x else x) :: r) h) sk
      | 11 => am2I (fun x y r => amW8 r ∧ K ls (aI (if x < y then y else x) :: r) h) sk
      | 12 => am2I (fun x y r => amW8 r ∧ K ls (aI (if y < x then y else x) :: r) h) sk
      | 13 => amCopy h (fun r h => K ls r h) sk
      | 14 => amStD (fun v r => match v with
        | Sum.inr (Sum.inr (Sum.inr (Sum.inl x))) => amW8 r ∧ K ls (aL x.toInt64 :: r) h
        | _ => False) sk
      | _ => False
  | .invokespecial _ => match e.2.2.2.2 with
    | some S => amCall G M Q e.1 e.2.2.2.1.2.2 e.2.2.2.1.2.1 e.2.2.2.1.1 S K J ls h (amPop e.2.2.2.1.1 sk)
    | none => amStR (fun _ r => amW8 r ∧ K ls r h) sk
  | .ireturn => match sk with
    | [Sum.inl x] => (match sr M.1 with
      | some .int => Q (Sum.inl (some (aI x))) h
      | some .boolean => (x = 0 ∨ x = 1) ∧ Q (Sum.inl (some (aI x))) h
      | _ => False)
    | _ => False
  | .lreturn => match sk with
    | [Sum.inr (Sum.inr (Sum.inl x))] => sr M.1 = some .long ∧ Q (Sum.inl (some (aL x))) h
    | _ => False
  | .dreturn => match sk with
    | [Sum.inr (Sum.inr (Sum.inr (Sum.inl x)))] => sr M.1 = some .double ∧ Q (Sum.inl (some (aD x))) h
    | _ => False
  | .return_ => match sk with
    | [] => sr M.1 = none ∧ Q (Sum.inl none) h
    | _ => False
  | _ => False
def amVc (G : amG) (M : amM) (Q : amR → amH → Prop) (J : amJ1) : List amE → amK1
  | [], _, _, _ => False
  | e :: l, ls, sk, h => amStep G M Q e (fun ls sk h => amVc G M Q J l ls sk h) J ls sk h
/-- what holds of the frame g's method for its end Z -/
def amEnd (G : amG) (M : amM) (Q : amR → amH → Prop) (p : Program) (e : Env) (R : Room) (s : State) (m : MethodId) (args : Array Value) (below : List Frame) (meth : Method) (c : Code) (Z : State → Prop) : Prop :=
  (Z = vx_MQ below (amQ G Q) (amXC G Q) args s R.cells R.slots (fun q => gB G ≤ q)) ∨ ((∀ j h, ¬ Q (Sum.inr j) h) ∧ sr M.1 = some .boolean ∧
    ∀ (x : Int) (h : amH) (H : Heap) (locs : List Loc) (cells slots : Nat) (LS : Array Slot) (pc : Nat), Q (Sum.inl (some (aI x))) h → (x = 0 ∨ x = 1) → amRel G h H → s.heap.size ≤ H.size → (∀ z ∈ locs, gB G ≤ z.base) → cells + hC h = R.cells → slots + hT h = R.slots → decode (sb M.1) pc = .ok (.ireturn, 1) →
      W p (gl G) e R s m args below meth c H locs cells slots Z (F0 m pc LS [.int (Int32.ofInt x)]))
/-- a place in a method's body, for the real machine and for the abstract one -/
def amA (G : amG) (M : amM) (Q : amR → amH → Prop) (p : Program) (e : Env) (R : Room) (s : State) (m : MethodId) (args : Array Value) (below : List Frame) (meth : Method) (c : Code) (Z : State → Prop) (H : Heap) (locs : List Loc) (cells slots : Nat) (LS : Array Slot) (ls : List (Option amV)) (sk : List amV) (h : amH) : Prop :=
  amG0 G ∧ amCtx G M p R s m meth c ∧ amEnd G M Q p e R s m args below meth c Z ∧ amRel G h H ∧ s.heap.size ≤ H.size ∧ (∀ z ∈ locs, gB G ≤ z.base) ∧ cells + hC h = R.cells ∧ slots + hT h = R.slots ∧ amLs (gB G) (sm M.1) ls LS ∧ (∀ v ∈ sk, amOk v)
/-- THE JUDGEMENT: from the place t, with these locals, stack and world, the method comes to an end of which Q holds -/
def X (G : amG) (M : amM) (Q : amR → amH → Prop) (t : Nat) (ls : List (Option amV)) (sk : List amV) (h : amH) : Prop :=
  ∀ (p : Program) (e : Env) (R : Room) (s : State) (m : MethodId) (args : Array Value) (below : List Frame) (meth : Method) (c : Code) (Z : State → Prop) (H : Heap) (locs : List Loc) (cells slots : Nat) (LS : Array Slot), amA G M Q p e R s m args below meth c Z H locs cells slots LS ls sk h →
    W p (gl G) e R s m args below meth c H locs cells slots Z (F0 m t LS (sk.map (amRv (gB G))))
/-- what the code's bytes and the tables' words say of an instruction -/
def amFld (M : amM) (idx ci k t : Nat) : Prop := ∃ (C : String) (T : u_T) (N : Nat), vwCl[ci]? = some (C, T, N) ∧ k < N ∧ (amF ci)[k]? = some t ∧ Cond.fieldLink M.2.1 idx (T k).1 (T k).2.1 (T k).2.2.1 ∈ lw_tbl
def amFin (M : amM) (ci k : Nat) : Prop := ∀ (C : String) (T : u_T) (N : Nat), vwCl[ci]? = some (C, T, N) → (T k).2.2.2 = true → (T k).1 = M.2.1 ∧ (sy M.1).name = "<init>"
def amCal (M : amM) (idx ci kind n : Nat) (S : amS) : Prop :=
  (amCode S ∈ lw_tbl ∧ goodWord (amCode S) = true) ∧ Cond.initialized (sy S).cls ∈ lw_tbl ∧ ((sy S).cls ≠ "java/lang/invoke/MethodHandle" ∧ (sy S).cls ≠ "java/lang/invoke/VarHandle") ∧ (sf S + 1 ≤ sf M.1 ∧ 8 + (sm S + 11) + sl S ≤ sl M.1) ∧
  (match kind with
    | 0 => (∃ (C : String) (T : u_T) (N : Nat), vwCl[ci]? = some (C, T, N) ∧ (sy S).cls = C) ∧ Cond.methodLink M.2.1 idx (sy S) ∈ lw_tbl ∧ Cond.instanceMethod (sy S) ∈ lw_tbl ∧ Cond.selects (sy S).cls (sy S) (sy S) ∈ lw_tbl ∧ (parseMethodDescriptor (sy S).desc).map (fun d => d.parameters.length + 1) = some n ∧ sh S = []
    | 1 => Cond.methodLink M.2.1 idx (sy S) ∈ lw_tbl ∧ Cond.static (sy S) ∈ lw_tbl ∧ (parseMethodDescriptor (sy S).desc).map (fun d => d.parameters.length) = some n
    | 2 => Cond.methodLink M.2.1 idx (sy S) ∈ lw_tbl ∧ Cond.instanceMethod (sy S) ∈ lw_tbl ∧ (sy S).name = "<init>" ∧ sr S = none ∧ (parseMethodDescriptor (sy S).desc).map (fun d => d.parameters.length + 1) = some n ∧ sh S = []
    | 3 => False
    | 4 => (∃ hs : String, Cond.methodLinkNest M.2.1 idx (sy S) hs ∈ lw_tbl) ∧ Cond.static (sy S) ∈ lw_tbl ∧ (parseMethodDescriptor (sy S).desc).map (fun d => d.parameters.length) = some n ∧ sh S = []
    | _ => (∃ hs : String, Cond.methodLinkNest M.2.1 idx (sy S) hs ∈ lw_tbl) ∧ Cond.instanceMethod (sy S) ∈ lw_tbl ∧ (sy S).name = "<init>" ∧ sr S = none ∧ (parseMethodDescriptor (sy S).desc).map (fun d => d.parameters.length + 1) = some n ∧ sh S = [])
/-- a throw: the row of places behind 'new', and the words of it -/
def amThr (M : amM) (pc ik j : Nat) : Prop := j < 3 ∧ sh M.1 = [] ∧ (3 + 3 ≤ sf M.1 ∧ 8 + 160 ≤ sl M.1) ∧ ∃ (is ic : Nat) (ls9 : Nat) (tx : String) (wide : Bool), Cond.stringRef M.2.1 is tx ∈ lw_tbl ∧ Cond.classLink M.2.1 ik (amEx j) ∈ lw_tbl ∧ Cond.initialized (amEx j) ∈ lw_tbl ∧
  (∀ w ∈ vx_atS M.2.1 ic (amEx j) ["java/lang/RuntimeException", "java/lang/Exception"], w ∈ lw_tbl ∧ w.onTables = true) ∧ (∀ w ∈ Cond.classLink M.2.1 ik (amEx j) :: Cond.initialized (amEx j) :: vx_atS M.2.1 ic (amEx j) ["java/lang/RuntimeException", "java/lang/Exception"], vx_ot w = true) ∧
  decode (sb M.1) (pc + 3) = .ok (.dup, 1) ∧ (if wide = true then decode (sb M.1) (pc + 4) = .ok (.ldc_w is, 3) ∧ ls9 = 7 else decode (sb M.1) (pc + 4) = .ok (.ldc is, 2) ∧ ls9 = 6) ∧ decode (sb M.1) (pc + ls9) = .ok (.invokespecial ic, 3) ∧ decode (sb M.1) (pc + ls9 + 3) = .ok (.athrow, 1)
def amOk1 (M : amM) (e : amE) : Prop := match e.2.1 with
  | .iload _ => e.2.2.1 = 2
  | .aload _ => e.2.2.1 = 2
  | .lload _ => e.2.2.1 = 2
  | .dload _ => e.2.2.1 = 2
  | .istore_n k => e.2.2.1 = 1 ∧ k.val < sm M.1
  | .astore_n k => e.2.2.1 = 1 ∧ k.val < sm M.1
  | .lstore_n k => e.2.2.1 = 1 ∧ k.val + 1 < sm M.1
  | .dstore_n k => e.2.2.1 = 1 ∧ k.val + 1 < sm M.1
  | .istore k => e.2.2.1 = 2 ∧ k < sm M.1
  | .astore k => e.2.2.1 = 2 ∧ k < sm M.1
  | .lstore k => e.2.2.1 = 2 ∧ k + 1 < sm M.1
  | .dstore k => e.2.2.1 = 2 ∧ k + 1 < sm M.1
  | .iinc k _ => e.2.2.1 = 3 ∧ k < sm M.1
  | .iconst n => e.2.2.1 = 1 ∧ (-10 ≤ n ∧ n ≤ 10)
  | .bipush n => e.2.2.1 = 2 ∧ (-128 ≤ n ∧ n < 128) ∧ (Int8.ofInt n).toInt32 = Int32.ofInt n
  | .sipush n => e.2.2.1 = 3 ∧ (-32768 ≤ n ∧ n < 32768) ∧ (Int16.ofInt n).toInt32 = Int32.ofInt n
  | .ldc idx => e.2.2.1 = 2 ∧ ∃ v : Int32, Cond.constant M.2.1 idx v ∈ lw_tbl ∧ v = Int32.ofInt (e.2.2.2.1.1 : Nat) ∧ amIn (e.2.2.2.1.1 : Nat)
  | .ldc2_w idx => e.2.2.1 = 3 ∧ (match e.2.2.2.1.1 with
    | 0 => Cond.constantLong M.2.1 idx (Int64.ofNat e.2.2.2.1.2.1) ∈ lw_tbl
    | _ => Cond.constantDouble M.2.1 idx (UInt64.ofNat e.2.2.2.1.2.1) ∈ lw_tbl)
  | .goto off => e.2.2.1 = 3 ∧ 0 ≤ (e.1 : Int) + off
  | .ifCond _ off => e.2.2.1 = 3 ∧ 0 ≤ (e.1 : Int) + off
  | .if_icmp _ off => e.2.2.1 = 3 ∧ 0 ≤ (e.1 : Int) + off
  | .tableswitch dflt lo hi offs => (0 ≤ (e.1 : Int) + dflt ∧ hi - lo + 1 = offs.size) ∧ ∀ o ∈ offs.toList, 0 ≤ (e.1 : Int) + o
  | .getfield idx => e.2.2.1 = 3 ∧ amFld M idx e.2.2.2.1.1 e.2.2.2.1.2.1 e.2.2.2.1.2.2
  | .putfield idx => e.2.2.1 = 3 ∧ amFld M idx e.2.2.2.1.1 e.2.2.2.1.2.1 e.2.2.2.1.2.2 ∧ amFin M e.2.2.2.1.1 e.2.2.2.1.2.1
  | .newarray at_ => e.2.2.1 = 2 ∧ (e.2.2.2.1.1 = 20 ∧ newarray.typeOf at_ = .int) ∧ Cond.arrayClass (newarray.typeOf at_) ∈ lw_tbl
  | .anewarray idx => e.2.2.1 = 3 ∧ (22 ≤ e.2.2.2.1.1 ∧ e.2.2.2.1.1 ≤ 24) ∧ ∃ C : String, amAK e.2.2.2.1.1 = .object C ∧ Cond.classLink M.2.1 idx C ∈ lw_tbl ∧ Cond.arrayOver (.object C) ∈ lw_tbl
  | .new idx => if e.2.2.2.1.1 < 100
      then e.2.2.1 = 3 ∧ ∃ (C : String) (T : u_T), vwCl[e.2.2.2.1.1]? = some (C, T, e.2.2.2.1.2.1) ∧ Cond.classLink M.2.1 idx C ∈ lw_tbl ∧ Cond.instantiable C e.2.2.2.1.2.1 ∈ lw_tbl ∧ Cond.initialized C ∈ lw_tbl
      else e.2.2.1 = 3 ∧ amThr M e.1 idx (e.2.2.2.1.1 - 100)
  | .invokevirtual idx => e.2.2.1 = 3 ∧ (e.2.2.2.1.2.1 = 0) ∧ (match e.2.2.2.2 with
    | some S => amCal M idx e.2.2.2.1.2.2 e.2.2.2.1.2.1 e.2.2.2.1.1 S
    | none => False)
  | .invokestatic idx => e.2.2.1 = 3 ∧ (match e.2.2.2.2 with
    | some S => (e.2.2.2.1.2.1 = 1 ∨ e.2.2.2.1.2.1 = 4) ∧ amCal M idx e.2.2.2.1.2.2 e.2.2.2.1.2.1 e.2.2.2.1.1 S
    | none => (1 ≤ sf M.1 ∧ 40 ≤ sl M.1) ∧ (match e.2.2.2.1.2.1 with
      | 10 => Cond.methodLink M.2.1 idx Lib.Math.abs.name ∈ lw_tbl ∧ Cond.static Lib.Math.abs.name ∈ lw_tbl ∧ Cond.initialized "java/lang/Math" ∈ lw_tbl ∧ Cond.code Lib.Math.abs.name Lib.Math.abs.code 1 (some .int) ∈ lw_tbl
      | 11 => Cond.methodLink M.2.1 idx Lib.Math.max.name ∈ lw_tbl ∧ Cond.static Lib.Math.max.name ∈ lw_tbl ∧ Cond.initialized "java/lang/Math" ∈ lw_tbl ∧ Cond.code Lib.Math.max.name Lib.Math.max.code 2 (some .int) ∈ lw_tbl
      | 12 => Cond.methodLink M.2.1 idx Lib.Math.min.name ∈ lw_tbl ∧ Cond.static Lib.Math.min.name ∈ lw_tbl ∧ Cond.initialized "java/lang/Math" ∈ lw_tbl ∧ Cond.code Lib.Math.min.name Lib.Math.min.code 2 (some .int) ∈ lw_tbl
      | 13 => Cond.methodLink M.2.1 idx arraycopyName ∈ lw_tbl ∧ Cond.native arraycopyName ∈ lw_tbl ∧ Cond.static arraycopyName ∈ lw_tbl ∧ Cond.initialized "java/lang/System" ∈ lw_tbl
      | 14 => Cond.methodLink M.2.1 idx ⟨"java/lang/Double", "doubleToRawLongBits", "(D)J"⟩ ∈ lw_tbl ∧ Cond.native ⟨"java/lang/Double", "doubleToRawLongBits", "(D)J"⟩ ∈ lw_tbl ∧ Cond.static ⟨"java/lang/Double", "doubleToRawLongBits", "(D)J"⟩ ∈ lw_tbl ∧ Cond.initialized "java/lang/Double" ∈ lw_tbl
      | _ => False))
  | .invokespecial idx => e.2.2.1 = 3 ∧ (match e.2.2.2.2 with
    | some S => (e.2.2.2.1.2.1 = 2 ∨ e.2.2.2.1.2.1 = 5) ∧ amCal M idx e.2.2.2.1.2.2 e.2.2.2.1.2.1 e.2.2.2.1.1 S
    | none => Cond.methodLink M.2.1 idx objectInit ∈ lw_tbl ∧ Cond.instanceMethod objectInit ∈ lw_tbl ∧ Cond.code objectInit ⟨#[0xb1]⟩ 1 none ∈ lw_tbl ∧ 1 ≤ sf M.1 ∧ 20 ≤ sl M.1)
  | .dcmp _ => e.2.2.1 = 1
  | _ => e.2.2.1 = 1
def amOkE (M : amM) (e : amE) : Prop := match e.2.1 with
  | .nop => True
  | _ => decode (sb M.1) e.1 = .ok (e.2.1, e.2.2.1) ∧ amOk1 M e
def amOkL (M : amM) : Nat → List amE → Prop
  | _, [] => True
  | pc, e :: l => e.1 = pc ∧ amOkE M e ∧ amOkL M (pc + e.2.2.1) l
/-- a method's table: which class each row names -/
def amTab (M : amM) : Prop := (sh M.1).length = (amHk M.1).length ∧ ∀ (i : Nat) (q : Nat × Nat × Nat × Nat) (k : Nat), (sh M.1)[i]? = some q → (amHk M.1)[i]? = some k → k < 3 ∧ q.2.2.2 ≠ 0 ∧ Cond.classLink M.2.1 q.2.2.2 (amEx k) ∈ lw_tbl ∧ Cond.castable (amEx k) (amEx k) ∈ lw_tbl
def amOkM (M : amM) : Prop := amTab M ∧ plainName (sy M.1).cls = true ∧ (sy M.1).cls = M.2.1 ∧ ∀ t l, M.2.2.lookup t = some l → amOkL M t l
end
section
/-! ===== the rows of the abstract machine: what does not touch the heap ===== -/
theorem amI_t {x : Int} (h : amIn x) : (Int32.ofInt x).toInt = x := Int32.toInt_ofInt_of_le (by have := h.1; omega) (by have := h.2; omega)
theorem amI_in (x : Int32) : amIn x.toInt := ⟨by have := x.le_toInt; omega, by have := x.toInt_lt; omega⟩
theorem amI_of (x : Int32) : Int32.ofInt x.toInt = x := Int32.ofInt_toInt x
theorem amI_eq {x y : Int} (hx : amIn x) (hy : amIn y) : Int32.ofInt x = Int32.ofInt y ↔ x = y := ⟨fun h => by rw [← amI_t hx, ← amI_t hy, h], fun h => by rw [h]⟩
theorem amI_lt {x y : Int} (hx : amIn x) (hy : amIn y) : Int32.ofInt x < Int32.ofInt y ↔ x < y := by rw [Int32.lt_iff_toInt_lt, amI_t hx, amI_t hy]
theorem amI_le {x y : Int} (hx : amIn x) (hy : amIn y) : Int32.ofInt x ≤ Int32.ofInt y ↔ x ≤ y := by rw [Int32.le_iff_toInt_le, amI_t hx, amI_t hy]
theorem amI_0 : Int32.ofInt 0 = 0 := by decide
theorem amIn_0 : amIn 0 := ⟨by decide, by decide⟩
theorem amI_div {x y : Int} (hx : amIn x) (hy : amIn y) (h : amIn (Int.tdiv x y)) : Int32.ofInt x / Int32.ofInt y = Int32.ofInt (Int.tdiv x y) := by
  rw [← amI_of (Int32.ofInt x / Int32.ofInt y), Int32.toInt_div, amI_t hx, amI_t hy]
  congr 1
  rw [Int.bmod_eq_of_le (by have := h.1; omega) (by have := h.2; omega)]
theorem amI_rem {x y : Int} (hx : amIn x) (hy : amIn y) (h : amIn (Int.tdiv x y)) : Int32.ofInt x - Int32.ofInt x / Int32.ofInt y * Int32.ofInt y = Int32.ofInt (Int.tmod x y) := by
  rw [amI_div hx hy h, ← Int32.ofInt_mul, ← Int32.ofInt_sub]
  congr 1
  have := Int.mul_tdiv_add_tmod x y
  rw [Int.mul_comm] at this
  omega
theorem amIn_rem {x y : Int} (hx : amIn x) : amIn (Int.tmod x y) := by
  have h1 := hx.1
  have h2 := hx.2
  have h3 : (Int.tmod x y).natAbs = x.natAbs % y.natAbs := Int.natAbs_tmod x y
  have h4 := Nat.mod_le x.natAbs y.natAbs
  rcases Int.le_total 0 x with h | h
  · have a := Int.tmod_nonneg y h
    exact ⟨by omega, by omega⟩
  · have a := Int.tmod_nonneg y (a := -x) (by omega)
    rw [Int.neg_tmod] at a
    exact ⟨by omega, by omega⟩
theorem amI_l {x : Int} (hx : amIn x) : (Int32.ofInt x).toInt64 = Int64.ofInt x := by
  rw [← Int64.ofInt_toInt (Int32.ofInt x).toInt64, Int32.toInt_toInt64, amI_t hx]
theorem amLs_at {B nL : Nat} {ls : List (Option amV)} {LS : Array Slot} (h : amLs B nL ls LS) {i : Nat} {v : amV} (g : amGet ls i = some v) : LS[i]? = some (.val (amRv B v)) := (h.2.2.2 i v g).1
theorem amLs_ok {B nL : Nat} {ls : List (Option amV)} {LS : Array Slot} (h : amLs B nL ls LS) {i : Nat} {v : amV} (g : amGet ls i = some v) : amOk v := (h.2.2.2 i v g).2
theorem amCat_r (B : Nat) (v : amV) : (amRv B v).category = amCat v := by
  rcases v with x | _ | _ | _ | _
  · rfl
  · rename_i r; cases r <;> rfl
  · rfl
  · rfl
  · rfl
theorem amSet_get : ∀ (l : List (Option amV)) (i j : Nat) (v : Option amV), amGet (amSet l i v) j = if j = i ∧ i < l.length then v else amGet l j := by
  intro l
  induction l with
  | nil => intro i j v; simp [amSet, amGet]
  | cons a l ih =>
    intro i j v
    cases i with
    | zero => cases j <;> simp [amSet, amGet]
    | succ i => cases j with
      | zero => simp [amSet, amGet]
      | succ j => simp [amSet, amGet, ih i j v]
theorem amSet_len : ∀ (l : List (Option amV)) (i : Nat) (v : Option amV), (amSet l i v).length = l.length := by
  intro l
  induction l with
  | nil => intro i v; rfl
  | cons a l ih => intro i v; cases i <;> simp [amSet, ih]
theorem amCut_len (l : List (Option amV)) (i : Nat) : (amCut l i).length = l.length := by
  cases i with
  | zero => rfl
  | succ j =>
    simp only [amCut]
    split
    · split
      · rw [amSet_len]
      · rfl
    · rfl
theorem amCut_get {l : List (Option amV)} {i j : Nat} {v : amV} (h : amGet (amCut l i) j = some v) : amGet l j = some v ∧ ¬ (j + 1 = i ∧ amCat v = 2) := by
  cases i with
  | zero => exact ⟨h, fun q => by omega⟩
  | succ k =>
    simp only [amCut] at h
    split at h
    · rename_i w hw
      split at h
      · rename_i hc
        rw [amSet_get] at h
        split at h
        · cases h
        · rename_i hn
          refine ⟨h, fun q => hn ⟨by omega, ?_⟩⟩
          rcases Nat.lt_or_ge k l.length with z | z
          · exact z
          · exfalso
            have : ∀ (l : List (Option amV)) (k : Nat), l.length ≤ k → amGet l k = none := by
              intro l
              induction l with
              | nil => intro k _; rfl
              | cons a l ih => intro k hk; cases k with
                | zero => simp at hk
                | succ k => exact ih k (by simpa using hk)
            rw [this l k z] at hw; cases hw
      · rename_i hc
        refine ⟨h, fun q => hc ?_⟩
        have : j = k := by omega
        subst this
        rw [hw] at h; cases h; exact q.2
    · rename_i hw
      refine ⟨h, fun q => ?_⟩
      have : j = k := by omega
      subst this
      rw [hw] at h; cases h
/-- a list of all that is known -/
def amKn (B : Nat) (ls : List (Option amV)) : List (Nat × Value) := (List.range ls.length).filterMap (fun i => (amGet ls i).map (fun v => (i, amRv B v)))
theorem amGet_lt : ∀ (l : List (Option amV)) (k : Nat) (v : amV), amGet l k = some v → k < l.length := by
  intro l
  induction l with
  | nil => intro k v h; cases h
  | cons a l ih => intro k v h; cases k with
    | zero => simp
    | succ k => have := ih k v h; simp; omega
theorem amKn_mem {B : Nat} {ls : List (Option amV)} {q : Nat × Value} : q ∈ amKn B ls ↔ ∃ v, amGet ls q.1 = some v ∧ q.2 = amRv B v := by
  constructor
  · intro h
    obtain ⟨i, -, hi⟩ := List.mem_filterMap.mp h
    cases hg : amGet ls i with
    | none => rw [hg] at hi; cases hi
    | some v => rw [hg] at hi; cases hi; exact ⟨v, hg, rfl⟩
  · rintro ⟨v, h1, h2⟩
    refine List.mem_filterMap.mpr ⟨q.1, List.mem_range.mpr (amGet_lt _ _ _ h1), ?_⟩
    rw [h1]
    show some (q.1, amRv B v) = some q
    rw [← h2]
theorem amLs_has {B nL : Nat} {ls : List (Option amV)} {LS : Array Slot} (h : amLs B nL ls LS) : lv_has LS nL (amKn B ls) := by
  refine ⟨h.1, h.2.1, fun q hq => ?_⟩
  obtain ⟨v, h1, h2⟩ := amKn_mem.mp hq
  rw [h2]; exact (h.2.2.2 _ _ h1).1
theorem amLs_st1 {B nL : Nat} {ls : List (Option amV)} {LS LS' : Array Slot} {i : Nat} {v : amV} (h : amLs B nL ls LS) (hv : amOk v) (hn : i < nL)
    (h' : lv_has LS' nL ((i, amRv B v) :: (amKn B ls).filter (fun q => !(q.1 == i) && !(q.1 + 1 == i && q.2.category == 2)))) : amLs B nL (amSt1 ls i v) LS' := by
  refine ⟨h'.1, h'.2.1, by rw [amSt1, amSet_len, amCut_len]; exact h.2.2.1, fun j w hj => ?_⟩
  rw [amSt1, amSet_get, amCut_len, h.2.2.1] at hj
  split at hj
  · rename_i q
    cases hj
    rw [q.1]
    exact ⟨h'.2.2 _ List.mem_cons_self, hv⟩
  · rename_i q
    obtain ⟨g1, g2⟩ := amCut_get hj
    refine ⟨h'.2.2 (j, amRv B w) (List.mem_cons_of_mem _ (List.mem_filter.mpr ⟨amKn_mem.mpr ⟨w, g1, rfl⟩, ?_⟩)), (h.2.2.2 j w g1).2⟩
    have hji : ¬ j = i := fun z => q ⟨z, hn⟩
    simp only [amCat_r, Bool.and_eq_true, Bool.not_eq_true', beq_eq_false_iff_ne, ne_eq, Bool.and_eq_false_iff, beq_iff_eq]
    refine ⟨hji, ?_⟩
    rcases Nat.decEq (j + 1) i with a | a
    · exact Or.inl a
    · exact Or.inr (fun z => g2 ⟨a, z⟩)
theorem amLs_st2 {B nL : Nat} {ls : List (Option amV)} {LS LS' : Array Slot} {i : Nat} {v : amV} (h : amLs B nL ls LS) (hv : amOk v) (hn : i + 1 < nL)
    (h' : lv_has LS' nL ((i, amRv B v) :: (amKn B ls).filter (fun q => !(q.1 == i) && (!(q.1 == i + 1) && !(q.1 + 1 == i && q.2.category == 2))))) : amLs B nL (amSt2 ls i v) LS' := by
  refine ⟨h'.1, h'.2.1, by rw [amSt2, amSet_len, amSet_len, amCut_len]; exact h.2.2.1, fun j w hj => ?_⟩
  rw [amSt2, amSet_get, amSet_len, amCut_len, h.2.2.1] at hj
  split at hj
  · cases hj
  · rename_i q0
    rw [amSet_get, amCut_len, h.2.2.1] at hj
    split at hj
    · rename_i q
      cases hj
      rw [q.1]
      exact ⟨h'.2.2 _ List.mem_cons_self, hv⟩
    · rename_i q
      obtain ⟨g1, g2⟩ := amCut_get hj
      refine ⟨h'.2.2 (j, amRv B w) (List.mem_cons_of_mem _ (List.mem_filter.mpr ⟨amKn_mem.mpr ⟨w, g1, rfl⟩, ?_⟩)), (h.2.2.2 j w g1).2⟩
      have hji : ¬ j = i := fun z => q ⟨z, by omega⟩
      have hji1 : ¬ j = i + 1 := fun z => q0 ⟨z, hn⟩
      simp only [amCat_r, Bool.and_eq_true, Bool.not_eq_true', beq_eq_false_iff_ne, ne_eq, Bool.and_eq_false_iff, beq_iff_eq]
      refine ⟨hji, hji1, ?_⟩
      rcases Nat.decEq (j + 1) i with a | a
      · exact Or.inl a
      · exact Or.inr (fun z => g2 ⟨a, z⟩)
section PureRows
variable {G : amG} {M : amM} {Q : amR → amH → Prop} {p : Program} {e : Env} {R : Room} {s : State} {m : MethodId} {args : Array Value} {below : List Frame} {meth : Method} {c : Code} {Z : State → Prop} {H : Heap} {locs : List Loc} {cells slots : Nat} {LS : Array Slot} {ls : List (Option amV)} {sk : List amV} {h : amH}
theorem amA.hx (A : amA G M Q p e R s m args below meth c Z H locs cells slots LS ls sk h) : p.tables.exec = Jvm.exec := A.2.1.1
theorem amA.hb (A : amA G M Q p e R s m args below meth c Z H locs cells slots LS ls sk h) : c.code = sb M.1 := A.2.1.2.1
theorem amA.hl (A : amA G M Q p e R s m args below meth c Z H locs cells slots LS ls sk h) : amLs (gB G) (sm M.1) ls LS := A.2.2.2.2.2.2.2.2.1
theorem amA.ok (A : amA G M Q p e R s m args below meth c Z H locs cells slots LS ls sk h) : ∀ v ∈ sk, amOk v := A.2.2.2.2.2.2.2.2.2
/-- other values on the stack -/
theorem amA.to (A : amA G M Q p e R s m args below meth c Z H locs cells slots LS ls sk h) {sk' : List amV} (hs : ∀ v ∈ sk', amOk v) : amA G M Q p e R s m args below meth c Z H locs cells slots LS ls sk' h :=
  ⟨A.1, A.2.1, A.2.2.1, A.2.2.2.1, A.2.2.2.2.1, A.2.2.2.2.2.1, A.2.2.2.2.2.2.1, A.2.2.2.2.2.2.2.1, A.hl, hs⟩
theorem amA.toL (A : amA G M Q p e R s m args below meth c Z H locs cells slots LS ls sk h) {sk' : List amV} {ls' : List (Option amV)} {LS' : Array Slot} (hl : amLs (gB G) (sm M.1) ls' LS') (hs : ∀ v ∈ sk', amOk v) : amA G M Q p e R s m args below meth c Z H locs cells slots LS' ls' sk' h :=
  ⟨A.1, A.2.1, A.2.2.1, A.2.2.2.1, A.2.2.2.2.1, A.2.2.2.2.2.1, A.2.2.2.2.2.2.1, A.2.2.2.2.2.2.2.1, hl, hs⟩
theorem am_all1 {v : amV} {r : List amV} (hv : amOk v) (hr : ∀ w ∈ r, amOk w) : ∀ w ∈ v :: r, amOk w := fun w hw => (List.mem_cons.mp hw).elim (fun q => q ▸ hv) (hr w)
theorem am_hd {v : amV} {r : List amV} (h : ∀ w ∈ v :: r, amOk w) : amOk v := h v List.mem_cons_self
theorem am_tl {v : amV} {r : List amV} (h : ∀ w ∈ v :: r, amOk w) : ∀ w ∈ r, amOk w := fun w hw => h w (List.mem_cons_of_mem _ hw)
variable {K : amK1} {J : amJ1} {pc len : Nat} {aux : Nat × Nat × Nat} {S : Option amS}
abbrev amHK (G : amG) (M : amM) (Q : amR → amH → Prop) (pc len : Nat) (K : amK1) : Prop := ∀ ls sk h, K ls sk h → X G M Q (pc + len) ls sk h
abbrev amHJ (G : amG) (M : amM) (Q : amR → amH → Prop) (J : amJ1) : Prop := ∀ t ls sk h, J t ls sk h → X G M Q t ls sk h
theorem X_iload {k : Nat} (he : amOkE M (pc, .iload k, len, aux, S)) (hs : amStep G M Q (pc, .iload k, len, aux, S) K J ls sk h) (hK : amHK G M Q pc len K) : X G M Q pc ls sk h := by
  obtain ⟨hd, hl⟩ := he
  cases (show len = 2 from hl)
  intro p e R s m args below meth c Z H locs cells slots LS A
  have hs : amLdI (fun v => K ls (v :: sk) h) (amGet ls k) := hs
  revert hs
  cases hg : amGet ls k with
  | none => exact fun q => q.elim
  | some v =>
    rcases v with x | r | x | x | a <;> first | exact fun q => q.elim | (intro hs; exact lv_iload A.hx A.hb hd (amLs_at A.hl hg) (hK _ _ _ hs _ _ _ _ _ _ _ _ _ _ _ _ _ _ _ (A.to (am_all1 (amLs_ok A.hl hg) A.ok))))
theorem X_iload_n {k : Fin 4} (he : amOkE M (pc, .iload_n k, len, aux, S)) (hs : amStep G M Q (pc, .iload_n k, len, aux, S) K J ls sk h) (hK : amHK G M Q pc len K) : X G M Q pc ls sk h := by
  obtain ⟨hd, hl⟩ := he
  cases (show len = 1 from hl)
  intro p e R s m args below meth c Z H locs cells slots LS A
  have hs : amLdI (fun v => K ls (v :: sk) h) (amGet ls k.val) := hs
  revert hs
  cases hg : amGet ls k.val with
  | none => exact fun q => q.elim
  | some v =>
    rcases v with x | r | x | x | a <;> first | exact fun q => q.elim | (intro hs; exact lv_iload_n A.hx A.hb hd rfl (amLs_at A.hl hg) (hK _ _ _ hs _ _ _ _ _ _ _ _ _ _ _ _ _ _ _ (A.to (am_all1 (amLs_ok A.hl hg) A.ok))))
theorem X_lload {k : Nat} (he : amOkE M (pc, .lload k, len, aux, S)) (hs : amStep G M Q (pc, .lload k, len, aux, S) K J ls sk h) (hK : amHK G M Q pc len K) : X G M Q pc ls sk h := by
  obtain ⟨hd, hl⟩ := he
  cases (show len = 2 from hl)
  intro p e R s m args below meth c Z H locs cells slots LS A
  have hs : amLdL (fun v => K ls (v :: sk) h) (amGet ls k) := hs
  revert hs
  cases hg : amGet ls k with
  | none => exact fun q => q.elim
  | some v =>
    rcases v with x | r | x | x | a <;> first | exact fun q => q.elim | (intro hs; exact lv_lload A.hx A.hb hd (amLs_at A.hl hg) (hK _ _ _ hs _ _ _ _ _ _ _ _ _ _ _ _ _ _ _ (A.to (am_all1 (amLs_ok A.hl hg) A.ok))))
theorem X_lload_n {k : Fin 4} (he : amOkE M (pc, .lload_n k, len, aux, S)) (hs : amStep G M Q (pc, .lload_n k, len, aux, S) K J ls sk h) (hK : amHK G M Q pc len K) : X G M Q pc ls sk h := by
  obtain ⟨hd, hl⟩ := he
  cases (show len = 1 from hl)
  intro p e R s m args below meth c Z H locs cells slots LS A
  have hs : amLdL (fun v => K ls (v :: sk) h) (amGet ls k.val) := hs
  revert hs
  cases hg : amGet ls k.val with
  | none => exact fun q => q.elim
  | some v =>
    rcases v with x | r | x | x | a <;> first | exact fun q => q.elim | (intro hs; exact lv_lload_n A.hx A.hb hd rfl (amLs_at A.hl hg) (hK _ _ _ hs _ _ _ _ _ _ _ _ _ _ _ _ _ _ _ (A.to (am_all1 (amLs_ok A.hl hg) A.ok))))
theorem X_dload {k : Nat} (he : amOkE M (pc, .dload k, len, aux, S)) (hs : amStep G M Q (pc, .dload k, len, aux, S) K J ls sk h) (hK : amHK G M Q pc len K) : X G M Q pc ls sk h := by
  obtain ⟨hd, hl⟩ := he
  cases (show len = 2 from hl)
  intro p e R s m args below meth c Z H locs cells slots LS A
  have hs : amLdD (fun v => K ls (v :: sk) h) (amGet ls k) := hs
  revert hs
  cases hg : amGet ls k with
  | none => exact fun q => q.elim
  | some v =>
    rcases v with x | r | x | x | a <;> first | exact fun q => q.elim | (intro hs; exact lv_dload A.hx A.hb hd (amLs_at A.hl hg) (hK _ _ _ hs _ _ _ _ _ _ _ _ _ _ _ _ _ _ _ (A.to (am_all1 (amLs_ok A.hl hg) A.ok))))
theorem X_dload_n {k : Fin 4} (he : amOkE M (pc, .dload_n k, len, aux, S)) (hs : amStep G M Q (pc, .dload_n k, len, aux, S) K J ls sk h) (hK : amHK G M Q pc len K) : X G M Q pc ls sk h := by
  obtain ⟨hd, hl⟩ := he
  cases (show len = 1 from hl)
  intro p e R s m args below meth c Z H locs cells slots LS A
  have hs : amLdD (fun v => K ls (v :: sk) h) (amGet ls k.val) := hs
  revert hs
  cases hg : amGet ls k.val with
  | none => exact fun q => q.elim
  | some v =>
    rcases v with x | r | x | x | a <;> first | exact fun q => q.elim | (intro hs; exact lv_dload_n A.hx A.hb hd rfl (amLs_at A.hl hg) (hK _ _ _ hs _ _ _ _ _ _ _ _ _ _ _ _ _ _ _ (A.to (am_all1 (amLs_ok A.hl hg) A.ok))))
theorem X_aload {k : Nat} (he : amOkE M (pc, .aload k, len, aux, S)) (hs : amStep G M Q (pc, .aload k, len, aux, S) K J ls sk h) (hK : amHK G M Q pc len K) : X G M Q pc ls sk h := by
  obtain ⟨hd, hl⟩ := he
  cases (show len = 2 from hl)
  intro p e R s m args below meth c Z H locs cells slots LS A
  have hs : amLdR (fun v => K ls (v :: sk) h) (amGet ls k) := hs
  revert hs
  cases hg : amGet ls k with
  | none => exact fun q => q.elim
  | some v =>
    rcases v with x | (_ | r) | x | x | a <;> first | exact fun q => q.elim | (intro hs; exact lv_aload A.hx A.hb hd (amLs_at A.hl hg) (hK _ _ _ hs _ _ _ _ _ _ _ _ _ _ _ _ _ _ _ (A.to (am_all1 (amLs_ok A.hl hg) A.ok))))
theorem X_aload_n {k : Fin 4} (he : amOkE M (pc, .aload_n k, len, aux, S)) (hs : amStep G M Q (pc, .aload_n k, len, aux, S) K J ls sk h) (hK : amHK G M Q pc len K) : X G M Q pc ls sk h := by
  obtain ⟨hd, hl⟩ := he
  cases (show len = 1 from hl)
  intro p e R s m args below meth c Z H locs cells slots LS A
  have hs : amLdR (fun v => K ls (v :: sk) h) (amGet ls k.val) := hs
  revert hs
  cases hg : amGet ls k.val with
  | none => exact fun q => q.elim
  | some v =>
    rcases v with x | (_ | r) | x | x | a <;> first | exact fun q => q.elim | (intro hs; exact lv_aload_n A.hx A.hb hd rfl (amLs_at A.hl hg) (hK _ _ _ hs _ _ _ _ _ _ _ _ _ _ _ _ _ _ _ (A.to (am_all1 (amLs_ok A.hl hg) A.ok))))
theorem X_istore {k : Nat} (he : amOkE M (pc, .istore k, len, aux, S)) (hs : amStep G M Q (pc, .istore k, len, aux, S) K J ls sk h) (hK : amHK G M Q pc len K) : X G M Q pc ls sk h := by
  obtain ⟨hd, hl, hn⟩ := he
  cases (show len = 2 from hl)
  intro p e R s m args below meth c Z H locs cells slots LS A
  have hs : amStI (fun v r => K (amSt1 ls k v) r h) sk := hs
  revert hs A
  rcases sk with _ | ⟨v, r⟩
  · exact fun _ q => q.elim
  · rcases v with x | r | x | x | a <;> first | exact fun _ q => q.elim | (intro A hs; exact lv_istore A.hx A.hb hd (amLs_has A.hl) hn rfl (fun LS' hl' => hK _ _ _ hs _ _ _ _ _ _ _ _ _ _ _ _ _ _ _ (A.toL (amLs_st1 A.hl (am_hd A.ok) hn hl') (am_tl A.ok))))
theorem X_istore_n {k : Fin 4} (he : amOkE M (pc, .istore_n k, len, aux, S)) (hs : amStep G M Q (pc, .istore_n k, len, aux, S) K J ls sk h) (hK : amHK G M Q pc len K) : X G M Q pc ls sk h := by
  obtain ⟨hd, hl, hn⟩ := he
  cases (show len = 1 from hl)
  intro p e R s m args below meth c Z H locs cells slots LS A
  have hs : amStI (fun v r => K (amSt1 ls k.val v) r h) sk := hs
  revert hs A
  rcases sk with _ | ⟨v, r⟩
  · exact fun _ q => q.elim
  · rcases v with x | r | x | x | a <;> first | exact fun _ q => q.elim | (intro A hs; exact lv_istore_n A.hx A.hb hd rfl (amLs_has A.hl) hn rfl (fun LS' hl' => hK _ _ _ hs _ _ _ _ _ _ _ _ _ _ _ _ _ _ _ (A.toL (amLs_st1 A.hl (am_hd A.ok) hn hl') (am_tl A.ok))))
theorem X_astore {k : Nat} (he : amOkE M (pc, .astore k, len, aux, S)) (hs : amStep G M Q (pc, .astore k, len, aux, S) K J ls sk h) (hK : amHK G M Q pc len K) : X G M Q pc ls sk h := by
  obtain ⟨hd, hl, hn⟩ := he
  cases (show len = 2 from hl)
  intro p e R s m args below meth c Z H locs cells slots LS A
  have hs : amStR (fun v r => K (amSt1 ls k v) r h) sk := hs
  revert hs A
  rcases sk with _ | ⟨v, r⟩
  · exact fun _ q => q.elim
  · rcases v with x | (_ | r) | x | x | a <;> first | exact fun _ q => q.elim | (intro A hs; exact lv_astore A.hx A.hb hd (amLs_has A.hl) hn rfl (fun LS' hl' => hK _ _ _ hs _ _ _ _ _ _ _ _ _ _ _ _ _ _ _ (A.toL (amLs_st1 A.hl (am_hd A.ok) hn hl') (am_tl A.ok))))
theorem X_astore_n {k : Fin 4} (he : amOkE M (pc, .astore_n k, len, aux, S)) (hs : amStep G M Q (pc, .astore_n k, len, aux, S) K J ls sk h) (hK : amHK G M Q pc len K) : X G M Q pc ls sk h := by
  obtain ⟨hd, hl, hn⟩ := he
  cases (show len = 1 from hl)
  intro p e R s m args below meth c Z H locs cells slots LS A
  have hs : amStR (fun v r => K (amSt1 ls k.val v) r h) sk := hs
  revert hs A
  rcases sk with _ | ⟨v, r⟩
  · exact fun _ q => q.elim
  · rcases v with x | (_ | r) | x | x | a <;> first | exact fun _ q => q.elim | (intro A hs; exact lv_astore_n A.hx A.hb hd rfl (amLs_has A.hl) hn rfl (fun LS' hl' => hK _ _ _ hs _ _ _ _ _ _ _ _ _ _ _ _ _ _ _ (A.toL (amLs_st1 A.hl (am_hd A.ok) hn hl') (am_tl A.ok))))
theorem X_lstore {k : Nat} (he : amOkE M (pc, .lstore k, len, aux, S)) (hs : amStep G M Q (pc, .lstore k, len, aux, S) K J ls sk h) (hK : amHK G M Q pc len K) : X G M Q pc ls sk h := by
  obtain ⟨hd, hl, hn⟩ := he
  cases (show len = 2 from hl)
  intro p e R s m args below meth c Z H locs cells slots LS A
  have hs : amStL (fun v r => K (amSt2 ls k v) r h) sk := hs
  revert hs A
  rcases sk with _ | ⟨v, r⟩
  · exact fun _ q => q.elim
  · rcases v with x | r | x | x | a <;> first | exact fun _ q => q.elim | (intro A hs; exact lv_lstore A.hx A.hb hd (amLs_has A.hl) hn rfl (fun LS' hl' => hK _ _ _ hs _ _ _ _ _ _ _ _ _ _ _ _ _ _ _ (A.toL (amLs_st2 A.hl (am_hd A.ok) hn hl') (am_tl A.ok))))
theorem X_lstore_n {k : Fin 4} (he : amOkE M (pc, .lstore_n k, len, aux, S)) (hs : amStep G M Q (pc, .lstore_n k, len, aux, S) K J ls sk h) (hK : amHK G M Q pc len K) : X G M Q pc ls sk h := by
  obtain ⟨hd, hl, hn⟩ := he
  cases (show len = 1 from hl)
  intro p e R s m args below meth c Z H locs cells slots LS A
  have hs : amStL (fun v r => K (amSt2 ls k.val v) r h) sk := hs
  revert hs A
  rcases sk with _ | ⟨v, r⟩
  · exact fun _ q => q.elim
  · rcases v with x | r | x | x | a <;> first | exact fun _ q => q.elim | (intro A hs; exact lv_lstore_n A.hx A.hb hd rfl (amLs_has A.hl) hn rfl (fun LS' hl' => hK _ _ _ hs _ _ _ _ _ _ _ _ _ _ _ _ _ _ _ (A.toL (amLs_st2 A.hl (am_hd A.ok) hn hl') (am_tl A.ok))))
theorem X_dstore {k : Nat} (he : amOkE M (pc, .dstore k, len, aux, S)) (hs : amStep G M Q (pc, .dstore k, len, aux, S) K J ls sk h) (hK : amHK G M Q pc len K) : X G M Q pc ls sk h := by
  obtain ⟨hd, hl, hn⟩ := he
  cases (show len = 2 from hl)
  intro p e R s m args below meth c Z H locs cells slots LS A
  have hs : amStD (fun v r => K (amSt2 ls k v) r h) sk := hs
  revert hs A
  rcases sk with _ | ⟨v, r⟩
  · exact fun _ q => q.elim
  · rcases v with x | r | x | x | a <;> first | exact fun _ q => q.elim | (intro A hs; exact lv_dstore A.hx A.hb hd (amLs_has A.hl) hn rfl (fun LS' hl' => hK _ _ _ hs _ _ _ _ _ _ _ _ _ _ _ _ _ _ _ (A.toL (amLs_st2 A.hl (am_hd A.ok) hn hl') (am_tl A.ok))))
theorem X_dstore_n {k : Fin 4} (he : amOkE M (pc, .dstore_n k, len, aux, S)) (hs : amStep G M Q (pc, .dstore_n k, len, aux, S) K J ls sk h) (hK : amHK G M Q pc len K) : X G M Q pc ls sk h := by
  obtain ⟨hd, hl, hn⟩ := he
  cases (show len = 1 from hl)
  intro p e R s m args below meth c Z H locs cells slots LS A
  have hs : amStD (fun v r => K (amSt2 ls k.val v) r h) sk := hs
  revert hs A
  rcases sk with _ | ⟨v, r⟩
  · exact fun _ q => q.elim
  · rcases v with x | r | x | x | a <;> first | exact fun _ q => q.elim | (intro A hs; exact lv_dstore_n A.hx A.hb hd rfl (amLs_has A.hl) hn rfl (fun LS' hl' => hK _ _ _ hs _ _ _ _ _ _ _ _ _ _ _ _ _ _ _ (A.toL (amLs_st2 A.hl (am_hd A.ok) hn hl') (am_tl A.ok))))
theorem X_iadd (he : amOkE M (pc, .iadd, len, aux, S)) (hs : amStep G M Q (pc, .iadd, len, aux, S) K J ls sk h) (hK : amHK G M Q pc len K) : X G M Q pc ls sk h := by
  obtain ⟨hd, hl⟩ := he
  cases (show len = 1 from hl)
  intro p e R s m args below meth c Z H locs cells slots LS A
  have hs : am2I (fun x y r => amIn (x + y) ∧ K ls (aI (x + y) :: r) h) sk := hs
  revert hs A
  rcases sk with _ | ⟨y | _ | _ | _ | _, _ | ⟨x | _ | _ | _ | _, r⟩⟩ <;> first | exact fun _ q => q.elim | skip
  intro A hs
  have ox : amIn x := am_hd (am_tl A.ok)
  have oy : amIn y := am_hd A.ok
  refine lv_iadd A.hx A.hb hd ?_
  rw [← Int32.ofInt_add]
  exact hK _ _ _ hs.2 _ _ _ _ _ _ _ _ _ _ _ _ _ _ _ (A.to (am_all1 (v := aI (x + y)) hs.1 (am_tl (am_tl A.ok))))
theorem X_isub (he : amOkE M (pc, .isub, len, aux, S)) (hs : amStep G M Q (pc, .isub, len, aux, S) K J ls sk h) (hK : amHK G M Q pc len K) : X G M Q pc ls sk h := by
  obtain ⟨hd, hl⟩ := he
  cases (show len = 1 from hl)
  intro p e R s m args below meth c Z H locs cells slots LS A
  have hs : am2I (fun x y r => amIn (x - y) ∧ K ls (aI (x - y) :: r) h) sk := hs
  revert hs A
  rcases sk with _ | ⟨y | _ | _ | _ | _, _ | ⟨x | _ | _ | _ | _, r⟩⟩ <;> first | exact fun _ q => q.elim | skip
  intro A hs
  have ox : amIn x := am_hd (am_tl A.ok)
  have oy : amIn y := am_hd A.ok
  refine lv_isub A.hx A.hb hd ?_
  rw [← Int32.ofInt_sub]
  exact hK _ _ _ hs.2 _ _ _ _ _ _ _ _ _ _ _ _ _ _ _ (A.to (am_all1 (v := aI (x - y)) hs.1 (am_tl (am_tl A.ok))))
theorem X_imul (he : amOkE M (pc, .imul, len, aux, S)) (hs : amStep G M Q (pc, .imul, len, aux, S) K J ls sk h) (hK : amHK G M Q pc len K) : X G M Q pc ls sk h := by
  obtain ⟨hd, hl⟩ := he
  cases (show len = 1 from hl)
  intro p e R s m args below meth c Z H locs cells slots LS A
  have hs : am2I (fun x y r => amIn (x * y) ∧ K ls (aI (x * y) :: r) h) sk := hs
  revert hs A
  rcases sk with _ | ⟨y | _ | _ | _ | _, _ | ⟨x | _ | _ | _ | _, r⟩⟩ <;> first | exact fun _ q => q.elim | skip
  intro A hs
  have ox : amIn x := am_hd (am_tl A.ok)
  have oy : amIn y := am_hd A.ok
  refine lv_imul A.hx A.hb hd ?_
  rw [← Int32.ofInt_mul]
  exact hK _ _ _ hs.2 _ _ _ _ _ _ _ _ _ _ _ _ _ _ _ (A.to (am_all1 (v := aI (x * y)) hs.1 (am_tl (am_tl A.ok))))
theorem X_idiv (he : amOkE M (pc, .idiv, len, aux, S)) (hs : amStep G M Q (pc, .idiv, len, aux, S) K J ls sk h) (hK : amHK G M Q pc len K) : X G M Q pc ls sk h := by
  obtain ⟨hd, hl⟩ := he
  cases (show len = 1 from hl)
  intro p e R s m args below meth c Z H locs cells slots LS A
  have hs : am2I (fun x y r => (y ≠ 0 ∧ amIn (Int.tdiv x y)) ∧ K ls (aI (Int.tdiv x y) :: r) h) sk := hs
  revert hs A
  rcases sk with _ | ⟨y | _ | _ | _ | _, _ | ⟨x | _ | _ | _ | _, r⟩⟩ <;> first | exact fun _ q => q.elim | skip
  intro A hs
  have ox : amIn x := am_hd (am_tl A.ok)
  have oy : amIn y := am_hd A.ok
  have hne : ¬ Int32.ofInt y = 0 := fun q => hs.1.1 ((amI_eq oy amIn_0).mp (q.trans amI_0.symm))
  refine lv_idiv A.hx A.hb hd hne ?_
  rw [amI_div ox oy hs.1.2]
  exact hK _ _ _ hs.2 _ _ _ _ _ _ _ _ _ _ _ _ _ _ _ (A.to (am_all1 (v := aI (Int.tdiv x y)) hs.1.2 (am_tl (am_tl A.ok))))
theorem X_irem (he : amOkE M (pc, .irem, len, aux, S)) (hs : amStep G M Q (pc, .irem, len, aux, S) K J ls sk h) (hK : amHK G M Q pc len K) : X G M Q pc ls sk h := by
  obtain ⟨hd, hl⟩ := he
  cases (show len = 1 from hl)
  intro p e R s m args below meth c Z H locs cells slots LS A
  have hs : am2I (fun x y r => (y ≠ 0 ∧ amIn (Int.tdiv x y)) ∧ K ls (aI (Int.tmod x y) :: r) h) sk := hs
  revert hs A
  rcases sk with _ | ⟨y | _ | _ | _ | _, _ | ⟨x | _ | _ | _ | _, r⟩⟩ <;> first | exact fun _ q => q.elim | skip
  intro A hs
  have ox : amIn x := am_hd (am_tl A.ok)
  have oy : amIn y := am_hd A.ok
  have hne : ¬ Int32.ofInt y = 0 := fun q => hs.1.1 ((amI_eq oy amIn_0).mp (q.trans amI_0.symm))
  refine lv_irem A.hx A.hb hd hne ?_
  rw [amI_rem ox oy hs.1.2]
  exact hK _ _ _ hs.2 _ _ _ _ _ _ _ _ _ _ _ _ _ _ _ (A.to (am_all1 (v := aI (Int.tmod x y)) (amIn_rem ox) (am_tl (am_tl A.ok))))
theorem X_iand (he : amOkE M (pc, .iand, len, aux, S)) (hs : amStep G M Q (pc, .iand, len, aux, S) K J ls sk h) (hK : amHK G M Q pc len K) : X G M Q pc ls sk h := by
  obtain ⟨hd, hl⟩ := he
  cases (show len = 1 from hl)
  intro p e R s m args below meth c Z H locs cells slots LS A
  have hs : am2I (fun x y r =>  K ls (aI ((Int32.ofInt x &&& Int32.ofInt y).toInt) :: r) h) sk := hs
  revert hs A
  rcases sk with _ | ⟨y | _ | _ | _ | _, _ | ⟨x | _ | _ | _ | _, r⟩⟩ <;> first | exact fun _ q => q.elim | skip
  intro A hs
  have ox : amIn x := am_hd (am_tl A.ok)
  have oy : amIn y := am_hd A.ok
  refine lv_iand A.hx A.hb hd ?_
  rw [← amI_of (Int32.ofInt x &&& Int32.ofInt y)]
  exact hK _ _ _ hs _ _ _ _ _ _ _ _ _ _ _ _ _ _ _ (A.to (am_all1 (v := aI (Int32.ofInt x &&& Int32.ofInt y).toInt) (amI_in _) (am_tl (am_tl A.ok))))
theorem X_ior (he : amOkE M (pc, .ior, len, aux, S)) (hs : amStep G M Q (pc, .ior, len, aux, S) K J ls sk h) (hK : amHK G M Q pc len K) : X G M Q pc ls sk h := by
  obtain ⟨hd, hl⟩ := he
  cases (show len = 1 from hl)
  intro p e R s m args below meth c Z H locs cells slots LS A
  have hs : am2I (fun x y r =>  K ls (aI (Int32.ofInt x ||| Int32.ofInt y).toInt :: r) h) sk := hs
  revert hs A
  rcases sk with _ | ⟨y | _ | _ | _ | _, _ | ⟨x | _ | _ | _ | _, r⟩⟩ <;> first | exact fun _ q => q.elim | skip
  intro A hs
  have ox : amIn x := am_hd (am_tl A.ok)
  have oy : amIn y := am_hd A.ok
  refine lv_ior A.hx A.hb hd ?_
  rw [← amI_of (Int32.ofInt x ||| Int32.ofInt y)]
  exact hK _ _ _ hs _ _ _ _ _ _ _ _ _ _ _ _ _ _ _ (A.to (am_all1 (v := aI (Int32.ofInt x ||| Int32.ofInt y).toInt) (amI_in _) (am_tl (am_tl A.ok))))
theorem X_ishl (he : amOkE M (pc, .ishl, len, aux, S)) (hs : amStep G M Q (pc, .ishl, len, aux, S) K J ls sk h) (hK : amHK G M Q pc len K) : X G M Q pc ls sk h := by
  obtain ⟨hd, hl⟩ := he
  cases (show len = 1 from hl)
  intro p e R s m args below meth c Z H locs cells slots LS A
  have hs : am2I (fun x y r =>  K ls (aI (Int32.ofInt x <<< (Int32.ofInt y &&& 31)).toInt :: r) h) sk := hs
  revert hs A
  rcases sk with _ | ⟨y | _ | _ | _ | _, _ | ⟨x | _ | _ | _ | _, r⟩⟩ <;> first | exact fun _ q => q.elim | skip
  intro A hs
  have ox : amIn x := am_hd (am_tl A.ok)
  have oy : amIn y := am_hd A.ok
  refine lv_ishl A.hx A.hb hd ?_
  rw [← amI_of (Int32.ofInt x <<< (Int32.ofInt y &&& 31))]
  exact hK _ _ _ hs _ _ _ _ _ _ _ _ _ _ _ _ _ _ _ (A.to (am_all1 (v := aI (Int32.ofInt x <<< (Int32.ofInt y &&& 31)).toInt) (amI_in _) (am_tl (am_tl A.ok))))
theorem X_ishr (he : amOkE M (pc, .ishr, len, aux, S)) (hs : amStep G M Q (pc, .ishr, len, aux, S) K J ls sk h) (hK : amHK G M Q pc len K) : X G M Q pc ls sk h := by
  obtain ⟨hd, hl⟩ := he
  cases (show len = 1 from hl)
  intro p e R s m args below meth c Z H locs cells slots LS A
  have hs : am2I (fun x y r =>  K ls (aI (Int32.ofInt x >>> (Int32.ofInt y &&& 31)).toInt :: r) h) sk := hs
  revert hs A
  rcases sk with _ | ⟨y | _ | _ | _ | _, _ | ⟨x | _ | _ | _ | _, r⟩⟩ <;> first | exact fun _ q => q.elim | skip
  intro A hs
  have ox : amIn x := am_hd (am_tl A.ok)
  have oy : amIn y := am_hd A.ok
  refine lv_ishr A.hx A.hb hd ?_
  rw [← amI_of (Int32.ofInt x >>> (Int32.ofInt y &&& 31))]
  exact hK _ _ _ hs _ _ _ _ _ _ _ _ _ _ _ _ _ _ _ (A.to (am_all1 (v := aI (Int32.ofInt x >>> (Int32.ofInt y &&& 31)).toInt) (amI_in _) (am_tl (am_tl A.ok))))
theorem X_iushr (he : amOkE M (pc, .iushr, len, aux, S)) (hs : amStep G M Q (pc, .iushr, len, aux, S) K J ls sk h) (hK : amHK G M Q pc len K) : X G M Q pc ls sk h := by
  obtain ⟨hd, hl⟩ := he
  cases (show len = 1 from hl)
  intro p e R s m args below meth c Z H locs cells slots LS A
  have hs : am2I (fun x y r =>  K ls (aI ((Int32.ofInt x).toUInt32 >>> ((Int32.ofInt y).toUInt32 &&& Int32.toUInt32 31)).toInt32.toInt :: r) h) sk := hs
  revert hs A
  rcases sk with _ | ⟨y | _ | _ | _ | _, _ | ⟨x | _ | _ | _ | _, r⟩⟩ <;> first | exact fun _ q => q.elim | skip
  intro A hs
  have ox : amIn x := am_hd (am_tl A.ok)
  have oy : amIn y := am_hd A.ok
  refine lv_iushr A.hx A.hb hd rfl ?_
  rw [← amI_of (((Int32.ofInt x).toUInt32 >>> ((Int32.ofInt y).toUInt32 &&& Int32.toUInt32 31)).toInt32)]
  exact hK _ _ _ hs _ _ _ _ _ _ _ _ _ _ _ _ _ _ _ (A.to (am_all1 (v := aI ((Int32.ofInt x).toUInt32 >>> ((Int32.ofInt y).toUInt32 &&& Int32.toUInt32 31)).toInt32.toInt) (amI_in _) (am_tl (am_tl A.ok))))
theorem X_dup_x2 (he : amOkE M (pc, .dup_x2, len, aux, S)) (hs : amStep G M Q (pc, .dup_x2, len, aux, S) K J ls sk h) (hK : amHK G M Q pc len K) : X G M Q pc ls sk h := by
  obtain ⟨hd, hl⟩ := he
  cases (show len = 1 from hl)
  intro p e R s m args below meth c Z H locs cells slots LS A
  revert hs A
  rcases sk with _ | ⟨v, _ | ⟨w, _ | ⟨u, r⟩⟩⟩
  · exact fun q => q.elim
  · exact fun q => q.elim
  · exact fun q => q.elim
  · intro hs A
    have hs : (amCat v = 1 ∧ amCat w = 1 ∧ amCat u = 1) ∧ K (ls) (v :: w :: u :: v :: r) h := hs
    have o1 := am_hd A.ok
    have t1 := am_tl A.ok
    have o2 := am_hd t1
    have t2 := am_tl t1
    exact lv_dup_x2 A.hx A.hb hd ((amCat_r _ _).trans hs.1.1) ((amCat_r _ _).trans hs.1.2.1) ((amCat_r _ _).trans hs.1.2.2) (hK _ _ _ hs.2 _ _ _ _ _ _ _ _ _ _ _ _ _ _ _ (A.to (am_all1 o1 (am_all1 o2 (am_all1 (am_hd t2) (am_all1 o1 (am_tl t2)))))))
theorem X_ineg (he : amOkE M (pc, .ineg, len, aux, S)) (hs : amStep G M Q (pc, .ineg, len, aux, S) K J ls sk h) (hK : amHK G M Q pc len K) : X G M Q pc ls sk h := by
  obtain ⟨hd, hl⟩ := he
  cases (show len = 1 from hl)
  intro p e R s m args below meth c Z H locs cells slots LS A
  have hs : am1I (fun x r => amIn (-x) ∧ K ls (aI (-x) :: r) h) sk := hs
  revert hs A
  rcases sk with _ | ⟨x | _ | _ | _ | _, r⟩ <;> first | exact fun _ q => q.elim | skip
  intro A hs
  have ox : amIn x := am_hd A.ok
  refine lv_ineg A.hx A.hb hd ?_
  rw [← Int32.ofInt_neg]
  exact hK _ _ _ hs.2 _ _ _ _ _ _ _ _ _ _ _ _ _ _ _ (A.to (am_all1 (v := aI (-x)) hs.1 (am_tl A.ok)))
theorem X_i2l (he : amOkE M (pc, .i2l, len, aux, S)) (hs : amStep G M Q (pc, .i2l, len, aux, S) K J ls sk h) (hK : amHK G M Q pc len K) : X G M Q pc ls sk h := by
  obtain ⟨hd, hl⟩ := he
  cases (show len = 1 from hl)
  intro p e R s m args below meth c Z H locs cells slots LS A
  have hs : am1I (fun x r =>  K ls (aL (Int64.ofInt x) :: r) h) sk := hs
  revert hs A
  rcases sk with _ | ⟨x | _ | _ | _ | _, r⟩ <;> first | exact fun _ q => q.elim | skip
  intro A hs
  have ox : amIn x := am_hd A.ok
  refine lv_i2l A.hx A.hb hd (amI_l ox) ?_
  exact hK _ _ _ hs _ _ _ _ _ _ _ _ _ _ _ _ _ _ _ (A.to (am_all1 (v := aL (Int64.ofInt x)) trivial (am_tl A.ok)))
theorem X_i2d (he : amOkE M (pc, .i2d, len, aux, S)) (hs : amStep G M Q (pc, .i2d, len, aux, S) K J ls sk h) (hK : amHK G M Q pc len K) : X G M Q pc ls sk h := by
  obtain ⟨hd, hl⟩ := he
  cases (show len = 1 from hl)
  intro p e R s m args below meth c Z H locs cells slots LS A
  have hs : am1I (fun x r =>  K ls (aD (FP.i2d (Int32.ofInt x)) :: r) h) sk := hs
  revert hs A
  rcases sk with _ | ⟨x | _ | _ | _ | _, r⟩ <;> first | exact fun _ q => q.elim | skip
  intro A hs
  have ox : amIn x := am_hd A.ok
  refine lv_i2d A.hx A.hb hd ?_
  exact hK _ _ _ hs _ _ _ _ _ _ _ _ _ _ _ _ _ _ _ (A.to (am_all1 (v := aD (FP.i2d (Int32.ofInt x))) trivial (am_tl A.ok)))
theorem X_ladd (he : amOkE M (pc, .ladd, len, aux, S)) (hs : amStep G M Q (pc, .ladd, len, aux, S) K J ls sk h) (hK : amHK G M Q pc len K) : X G M Q pc ls sk h := by
  obtain ⟨hd, hl⟩ := he
  cases (show len = 1 from hl)
  intro p e R s m args below meth c Z H locs cells slots LS A
  have hs : am2L (fun x y r => K ls (aL (x + y) :: r) h) sk := hs
  revert hs A
  rcases sk with _ | ⟨_ | _ | y | _ | _, _ | ⟨_ | _ | x | _ | _, r⟩⟩ <;> first | exact fun _ q => q.elim | skip
  intro A hs
  exact lv_ladd A.hx A.hb hd (hK _ _ _ hs _ _ _ _ _ _ _ _ _ _ _ _ _ _ _ (A.to (am_all1 (v := aL (x + y)) trivial (am_tl (am_tl A.ok)))))
theorem X_lsub (he : amOkE M (pc, .lsub, len, aux, S)) (hs : amStep G M Q (pc, .lsub, len, aux, S) K J ls sk h) (hK : amHK G M Q pc len K) : X G M Q pc ls sk h := by
  obtain ⟨hd, hl⟩ := he
  cases (show len = 1 from hl)
  intro p e R s m args below meth c Z H locs cells slots LS A
  have hs : am2L (fun x y r => K ls (aL (x - y) :: r) h) sk := hs
  revert hs A
  rcases sk with _ | ⟨_ | _ | y | _ | _, _ | ⟨_ | _ | x | _ | _, r⟩⟩ <;> first | exact fun _ q => q.elim | skip
  intro A hs
  exact lv_lsub A.hx A.hb hd (hK _ _ _ hs _ _ _ _ _ _ _ _ _ _ _ _ _ _ _ (A.to (am_all1 (v := aL (x - y)) trivial (am_tl (am_tl A.ok)))))
theorem X_lmul (he : amOkE M (pc, .lmul, len, aux, S)) (hs : amStep G M Q (pc, .lmul, len, aux, S) K J ls sk h) (hK : amHK G M Q pc len K) : X G M Q pc ls sk h := by
  obtain ⟨hd, hl⟩ := he
  cases (show len = 1 from hl)
  intro p e R s m args below meth c Z H locs cells slots LS A
  have hs : am2L (fun x y r => K ls (aL (x * y) :: r) h) sk := hs
  revert hs A
  rcases sk with _ | ⟨_ | _ | y | _ | _, _ | ⟨_ | _ | x | _ | _, r⟩⟩ <;> first | exact fun _ q => q.elim | skip
  intro A hs
  exact lv_lmul A.hx A.hb hd (hK _ _ _ hs _ _ _ _ _ _ _ _ _ _ _ _ _ _ _ (A.to (am_all1 (v := aL (x * y)) trivial (am_tl (am_tl A.ok)))))
theorem X_lor (he : amOkE M (pc, .lor, len, aux, S)) (hs : amStep G M Q (pc, .lor, len, aux, S) K J ls sk h) (hK : amHK G M Q pc len K) : X G M Q pc ls sk h := by
  obtain ⟨hd, hl⟩ := he
  cases (show len = 1 from hl)
  intro p e R s m args below meth c Z H locs cells slots LS A
  have hs : am2L (fun x y r => K ls (aL (x ||| y) :: r) h) sk := hs
  revert hs A
  rcases sk with _ | ⟨_ | _ | y | _ | _, _ | ⟨_ | _ | x | _ | _, r⟩⟩ <;> first | exact fun _ q => q.elim | skip
  intro A hs
  exact lv_lor A.hx A.hb hd (hK _ _ _ hs _ _ _ _ _ _ _ _ _ _ _ _ _ _ _ (A.to (am_all1 (v := aL (x ||| y)) trivial (am_tl (am_tl A.ok)))))
theorem X_lcmp (he : amOkE M (pc, .lcmp, len, aux, S)) (hs : amStep G M Q (pc, .lcmp, len, aux, S) K J ls sk h) (hK : amHK G M Q pc len K) : X G M Q pc ls sk h := by
  obtain ⟨hd, hl⟩ := he
  cases (show len = 1 from hl)
  intro p e R s m args below meth c Z H locs cells slots LS A
  have hs : am2L (fun x y r => K ls (aI (lg_cmp x y).toInt :: r) h) sk := hs
  revert hs A
  rcases sk with _ | ⟨_ | _ | y | _ | _, _ | ⟨_ | _ | x | _ | _, r⟩⟩ <;> first | exact fun _ q => q.elim | skip
  intro A hs
  refine W.lcmp A.hx A.hb hd ?_
  rw [← amI_of (lg_cmp x y)]
  exact hK _ _ _ hs _ _ _ _ _ _ _ _ _ _ _ _ _ _ _ (A.to (am_all1 (v := aI (lg_cmp x y).toInt) (amI_in _) (am_tl (am_tl A.ok))))
theorem X_lshl (he : amOkE M (pc, .lshl, len, aux, S)) (hs : amStep G M Q (pc, .lshl, len, aux, S) K J ls sk h) (hK : amHK G M Q pc len K) : X G M Q pc ls sk h := by
  obtain ⟨hd, hl⟩ := he
  cases (show len = 1 from hl)
  intro p e R s m args below meth c Z H locs cells slots LS A
  revert hs A
  rcases sk with _ | ⟨y | _ | _ | _ | _, _ | ⟨_ | _ | x | _ | _, r⟩⟩ <;> first | exact fun q => q.elim | skip
  intro hs A
  have hs : K ls (aL (x <<< ((Int32.ofInt y).toInt64 &&& 63)) :: r) h := hs
  exact lv_lshl A.hx A.hb hd rfl (hK _ _ _ hs _ _ _ _ _ _ _ _ _ _ _ _ _ _ _ (A.to (am_all1 (v := aL (x <<< ((Int32.ofInt y).toInt64 &&& 63))) trivial (am_tl (am_tl A.ok)))))
theorem X_dmul (he : amOkE M (pc, .dmul, len, aux, S)) (hs : amStep G M Q (pc, .dmul, len, aux, S) K J ls sk h) (hK : amHK G M Q pc len K) : X G M Q pc ls sk h := by
  obtain ⟨hd, hl⟩ := he
  cases (show len = 1 from hl)
  intro p e R s m args below meth c Z H locs cells slots LS A
  have hs : am2D (fun x y r => vf_n64 (FP.dmul x y) ∧ K ls (aD (FP.dmul x y) :: r) h) sk := hs
  revert hs A
  rcases sk with _ | ⟨_ | _ | _ | y | _, _ | ⟨_ | _ | _ | x | _, r⟩⟩ <;> first | exact fun _ q => q.elim | skip
  intro A hs
  exact lv_dmul A.hx A.hb hd hs.1 (hK _ _ _ hs.2 _ _ _ _ _ _ _ _ _ _ _ _ _ _ _ (A.to (am_all1 (v := aD (FP.dmul x y)) trivial (am_tl (am_tl A.ok)))))
theorem X_ddiv (he : amOkE M (pc, .ddiv, len, aux, S)) (hs : amStep G M Q (pc, .ddiv, len, aux, S) K J ls sk h) (hK : amHK G M Q pc len K) : X G M Q pc ls sk h := by
  obtain ⟨hd, hl⟩ := he
  cases (show len = 1 from hl)
  intro p e R s m args below meth c Z H locs cells slots LS A
  have hs : am2D (fun x y r => vf_n64 (FP.ddiv x y) ∧ K ls (aD (FP.ddiv x y) :: r) h) sk := hs
  revert hs A
  rcases sk with _ | ⟨_ | _ | _ | y | _, _ | ⟨_ | _ | _ | x | _, r⟩⟩ <;> first | exact fun _ q => q.elim | skip
  intro A hs
  exact lv_ddiv A.hx A.hb hd hs.1 (hK _ _ _ hs.2 _ _ _ _ _ _ _ _ _ _ _ _ _ _ _ (A.to (am_all1 (v := aD (FP.ddiv x y)) trivial (am_tl (am_tl A.ok)))))
theorem X_dsub (he : amOkE M (pc, .dsub, len, aux, S)) (hs : amStep G M Q (pc, .dsub, len, aux, S) K J ls sk h) (hK : amHK G M Q pc len K) : X G M Q pc ls sk h := by
  obtain ⟨hd, hl⟩ := he
  cases (show len = 1 from hl)
  intro p e R s m args below meth c Z H locs cells slots LS A
  have hs : am2D (fun x y r => vf_n64 (FP.dsub x y) ∧ K ls (aD (FP.dsub x y) :: r) h) sk := hs
  revert hs A
  rcases sk with _ | ⟨_ | _ | _ | y | _, _ | ⟨_ | _ | _ | x | _, r⟩⟩ <;> first | exact fun _ q => q.elim | skip
  intro A hs
  exact lv_dsub A.hx A.hb hd hs.1 (hK _ _ _ hs.2 _ _ _ _ _ _ _ _ _ _ _ _ _ _ _ (A.to (am_all1 (v := aD (FP.dsub x y)) trivial (am_tl (am_tl A.ok)))))
theorem X_dcmp {op : CmpOp} (he : amOkE M (pc, .dcmp op, len, aux, S)) (hs : amStep G M Q (pc, .dcmp op, len, aux, S) K J ls sk h) (hK : amHK G M Q pc len K) : X G M Q pc ls sk h := by
  obtain ⟨hd, hl⟩ := he
  cases (show len = 1 from hl)
  intro p e R s m args below meth c Z H locs cells slots LS A
  have hs : am2D (fun x y r => K ls (aI (Op.cmpValue (FP.dcmp x y) op).toInt :: r) h) sk := hs
  revert hs A
  rcases sk with _ | ⟨_ | _ | _ | y | _, _ | ⟨_ | _ | _ | x | _, r⟩⟩ <;> first | exact fun _ q => q.elim | skip
  intro A hs
  refine lv_dcmp A.hx A.hb hd ?_
  rw [← amI_of (Op.cmpValue (FP.dcmp x y) op)]
  exact hK _ _ _ hs _ _ _ _ _ _ _ _ _ _ _ _ _ _ _ (A.to (am_all1 (v := aI (Op.cmpValue (FP.dcmp x y) op).toInt) (amI_in _) (am_tl (am_tl A.ok))))
theorem X_d2l (he : amOkE M (pc, .d2l, len, aux, S)) (hs : amStep G M Q (pc, .d2l, len, aux, S) K J ls sk h) (hK : amHK G M Q pc len K) : X G M Q pc ls sk h := by
  obtain ⟨hd, hl⟩ := he
  cases (show len = 1 from hl)
  intro p e R s m args below meth c Z H locs cells slots LS A
  revert hs A
  rcases sk with _ | ⟨_ | _ | _ | x | _, r⟩ <;> first | exact fun q => q.elim | skip
  intro hs A
  have hs : K ls (aL (FP.d2l x) :: r) h := hs
  exact lv_d2l A.hx A.hb hd (hK _ _ _ hs _ _ _ _ _ _ _ _ _ _ _ _ _ _ _ (A.to (am_all1 (v := aL (FP.d2l x)) trivial (am_tl A.ok))))
theorem X_dup (he : amOkE M (pc, .dup, len, aux, S)) (hs : amStep G M Q (pc, .dup, len, aux, S) K J ls sk h) (hK : amHK G M Q pc len K) : X G M Q pc ls sk h := by
  obtain ⟨hd, hl⟩ := he
  cases (show len = 1 from hl)
  intro p e R s m args below meth c Z H locs cells slots LS A
  revert hs A
  rcases sk with _ | ⟨v, r⟩
  · exact fun q => q.elim
  · intro hs A
    have hs : amCat v = 1 ∧ K ls (v :: v :: r) h := hs
    exact lv_dup A.hx A.hb hd ((amCat_r _ _).trans hs.1) (hK _ _ _ hs.2 _ _ _ _ _ _ _ _ _ _ _ _ _ _ _ (A.to (am_all1 (am_hd A.ok) A.ok)))
theorem X_dup2 (he : amOkE M (pc, .dup2, len, aux, S)) (hs : amStep G M Q (pc, .dup2, len, aux, S) K J ls sk h) (hK : amHK G M Q pc len K) : X G M Q pc ls sk h := by
  obtain ⟨hd, hl⟩ := he
  cases (show len = 1 from hl)
  intro p e R s m args below meth c Z H locs cells slots LS A
  revert hs A
  rcases sk with _ | ⟨v, _ | ⟨w, r⟩⟩
  · exact fun q => q.elim
  · exact fun q => q.elim
  · intro hs A
    have hs : (amCat v = 1 ∧ amCat w = 1) ∧ K ls (v :: w :: v :: w :: r) h := hs
    exact lv_dup2_11 A.hx A.hb hd ((amCat_r _ _).trans hs.1.1) ((amCat_r _ _).trans hs.1.2) (hK _ _ _ hs.2 _ _ _ _ _ _ _ _ _ _ _ _ _ _ _ (A.to (am_all1 (am_hd A.ok) (am_all1 (am_hd (am_tl A.ok)) A.ok))))
theorem X_pop (he : amOkE M (pc, .pop, len, aux, S)) (hs : amStep G M Q (pc, .pop, len, aux, S) K J ls sk h) (hK : amHK G M Q pc len K) : X G M Q pc ls sk h := by
  obtain ⟨hd, hl⟩ := he
  cases (show len = 1 from hl)
  intro p e R s m args below meth c Z H locs cells slots LS A
  revert hs A
  rcases sk with _ | ⟨v, r⟩
  · exact fun q => q.elim
  · intro hs A
    have hs : amCat v = 1 ∧ K ls r h := hs
    exact lv_pop A.hx A.hb hd ((amCat_r _ _).trans hs.1) (hK _ _ _ hs.2 _ _ _ _ _ _ _ _ _ _ _ _ _ _ _ (A.to (am_tl A.ok)))
theorem X_iinc {k : Nat} {n : Int} (he : amOkE M (pc, .iinc k n, len, aux, S)) (hs : amStep G M Q (pc, .iinc k n, len, aux, S) K J ls sk h) (hK : amHK G M Q pc len K) : X G M Q pc ls sk h := by
  obtain ⟨hd, hl, hn⟩ := he
  cases (show len = 3 from hl)
  intro p e R s m args below meth c Z H locs cells slots LS A
  have hs : amLdI (fun v => match v with
      | Sum.inl x => amIn (x + n) ∧ K (amSt1 ls k (aI (x + n))) sk h
      | _ => False) (amGet ls k) := hs
  revert hs
  cases hg : amGet ls k with
  | none => exact fun q => q.elim
  | some v =>
    rcases v with x | r | x | x | a <;> first | exact fun q => q.elim | skip
    intro hs
    have hs : amIn (x + n) ∧ K (amSt1 ls k (aI (x + n))) sk h := hs
    obtain ⟨j, hj⟩ := List.getElem?_of_mem (amKn_mem.mpr ⟨_, hg, rfl⟩ : (k, amRv (gB G) (aI x)) ∈ amKn (gB G) ls)
    exact lv_iinc A.hx A.hb hd (amLs_has A.hl) hj (v := Int32.ofInt (x + n)) (Int32.ofInt_add x n).symm hn rfl (fun LS' hl' => hK _ _ _ hs.2 _ _ _ _ _ _ _ _ _ _ _ _ _ _ _ (A.toL (amLs_st1 (v := aI (x + n)) A.hl hs.1 hn hl') A.ok))
theorem X_iconst {n : Int} (he : amOkE M (pc, .iconst n, len, aux, S)) (hs : amStep G M Q (pc, .iconst n, len, aux, S) K J ls sk h) (hK : amHK G M Q pc len K) : X G M Q pc ls sk h := by
  obtain ⟨hd, hl, hn⟩ := he
  cases (show len = 1 from hl)
  intro p e R s m args below meth c Z H locs cells slots LS A
  exact lv_iconst A.hx A.hb hd rfl (hK _ _ _ hs _ _ _ _ _ _ _ _ _ _ _ _ _ _ _ (A.to (am_all1 (v := aI n) (show amIn n from ⟨by have := hn.1; omega, by have := hn.2; omega⟩) A.ok)))
theorem X_bipush {n : Int} (he : amOkE M (pc, .bipush n, len, aux, S)) (hs : amStep G M Q (pc, .bipush n, len, aux, S) K J ls sk h) (hK : amHK G M Q pc len K) : X G M Q pc ls sk h := by
  obtain ⟨hd, hl, hn, h8⟩ := he
  cases (show len = 2 from hl)
  intro p e R s m args below meth c Z H locs cells slots LS A
  exact lv_bipush A.hx A.hb hd h8 (hK _ _ _ hs _ _ _ _ _ _ _ _ _ _ _ _ _ _ _ (A.to (am_all1 (v := aI n) (show amIn n from ⟨by have := hn.1; omega, by have := hn.2; omega⟩) A.ok)))
theorem X_sipush {n : Int} (he : amOkE M (pc, .sipush n, len, aux, S)) (hs : amStep G M Q (pc, .sipush n, len, aux, S) K J ls sk h) (hK : amHK G M Q pc len K) : X G M Q pc ls sk h := by
  obtain ⟨hd, hl, hn, h8⟩ := he
  cases (show len = 3 from hl)
  intro p e R s m args below meth c Z H locs cells slots LS A
  exact lv_sipush A.hx A.hb hd h8 (hK _ _ _ hs _ _ _ _ _ _ _ _ _ _ _ _ _ _ _ (A.to (am_all1 (v := aI n) (show amIn n from ⟨by have := hn.1; omega, by have := hn.2; omega⟩) A.ok)))
theorem X_lconst {n : Fin 2} (he : amOkE M (pc, .lconst n, len, aux, S)) (hs : amStep G M Q (pc, .lconst n, len, aux, S) K J ls sk h) (hK : amHK G M Q pc len K) : X G M Q pc ls sk h := by
  obtain ⟨hd, hl⟩ := he
  cases (show len = 1 from hl)
  intro p e R s m args below meth c Z H locs cells slots LS A
  exact lv_lconst A.hx A.hb hd rfl (hK _ _ _ hs _ _ _ _ _ _ _ _ _ _ _ _ _ _ _ (A.to (am_all1 (v := aL (Int64.ofNat n.val)) trivial A.ok)))
theorem X_dconst {n : Fin 2} (he : amOkE M (pc, .dconst n, len, aux, S)) (hs : amStep G M Q (pc, .dconst n, len, aux, S) K J ls sk h) (hK : amHK G M Q pc len K) : X G M Q pc ls sk h := by
  obtain ⟨hd, hl⟩ := he
  cases (show len = 1 from hl)
  intro p e R s m args below meth c Z H locs cells slots LS A
  match n, hd, hs with
  | 0, hd, hs => exact lv_dconst0 A.hx A.hb hd (hK _ _ _ hs _ _ _ _ _ _ _ _ _ _ _ _ _ _ _ (A.to (am_all1 (v := aD FP.dconst0) trivial A.ok)))
  | 1, hd, hs => exact lv_dconst1 A.hx A.hb hd (hK _ _ _ hs _ _ _ _ _ _ _ _ _ _ _ _ _ _ _ (A.to (am_all1 (v := aD FP.dconst1) trivial A.ok)))
theorem X_goto {off : Int} (he : amOkE M (pc, .goto off, len, aux, S)) (hs : amStep G M Q (pc, .goto off, len, aux, S) K J ls sk h) (hJ : amHJ G M Q J) : X G M Q pc ls sk h := by
  obtain ⟨hd, hl, ho⟩ := he
  cases (show len = 3 from hl)
  intro p e R s m args below meth c Z H locs cells slots LS A
  exact lv_goto A.hx A.hb hd (Int.toNat_of_nonneg ho).symm (hJ _ _ _ _ hs _ _ _ _ _ _ _ _ _ _ _ _ _ _ _ A)
theorem X_nop (hs : amStep G M Q (pc, .nop, len, aux, S) K J ls sk h) (hJ : amHJ G M Q J) : X G M Q pc ls sk h := hJ _ _ _ _ hs
theorem X_ic_eq {off : Int} (he : amOkE M (pc, .if_icmp .eq off, len, aux, S)) (hs : amStep G M Q (pc, .if_icmp .eq off, len, aux, S) K J ls sk h) (hK : amHK G M Q pc len K) (hJ : amHJ G M Q J) : X G M Q pc ls sk h := by
  obtain ⟨hd, hl, ho⟩ := he
  cases (show len = 3 from hl)
  intro p e R s m args below meth c Z H locs cells slots LS A
  revert hs A
  rcases sk with _ | ⟨y | _ | _ | _ | _, _ | ⟨x | _ | _ | _ | _, r⟩⟩ <;> first | exact fun q => q.elim | skip
  intro hs A
  have hs : (amCmp .eq x y → J (amJ pc off) ls r h) ∧ (¬ amCmp .eq x y → K ls r h) := hs
  have ox : amIn x := am_hd (am_tl A.ok)
  have oy : amIn y := am_hd A.ok
  exact lv_icmp_eq A.hx A.hb hd (Int.toNat_of_nonneg ho).symm (fun q => hJ _ _ _ _ (hs.1 ((amI_eq ox oy).mp q)) _ _ _ _ _ _ _ _ _ _ _ _ _ _ _ (A.to (am_tl (am_tl A.ok)))) (fun q => hK _ _ _ (hs.2 (fun z => q ((amI_eq ox oy).mpr z))) _ _ _ _ _ _ _ _ _ _ _ _ _ _ _ (A.to (am_tl (am_tl A.ok))))
theorem X_if_eq {off : Int} (he : amOkE M (pc, .ifCond .eq off, len, aux, S)) (hs : amStep G M Q (pc, .ifCond .eq off, len, aux, S) K J ls sk h) (hK : amHK G M Q pc len K) (hJ : amHJ G M Q J) : X G M Q pc ls sk h := by
  obtain ⟨hd, hl, ho⟩ := he
  cases (show len = 3 from hl)
  intro p e R s m args below meth c Z H locs cells slots LS A
  revert hs A
  rcases sk with _ | ⟨x | _ | _ | _ | _, r⟩ <;> first | exact fun q => q.elim | skip
  intro hs A
  have hs : (amCmp .eq x 0 → J (amJ pc off) ls r h) ∧ (¬ amCmp .eq x 0 → K ls r h) := hs
  have ox : amIn x := am_hd A.ok
  exact lv_if_eq A.hx A.hb hd (Int.toNat_of_nonneg ho).symm (fun q => hJ _ _ _ _ (hs.1 ((amI_eq ox amIn_0).mp (by rw [amI_0]; exact q))) _ _ _ _ _ _ _ _ _ _ _ _ _ _ _ (A.to (am_tl A.ok))) (fun q => hK _ _ _ (hs.2 (fun z => q (by have z := (amI_eq ox amIn_0).mpr z; rw [amI_0] at z; exact z))) _ _ _ _ _ _ _ _ _ _ _ _ _ _ _ (A.to (am_tl A.ok)))
theorem X_ic_ne {off : Int} (he : amOkE M (pc, .if_icmp .ne off, len, aux, S)) (hs : amStep G M Q (pc, .if_icmp .ne off, len, aux, S) K J ls sk h) (hK : amHK G M Q pc len K) (hJ : amHJ G M Q J) : X G M Q pc ls sk h := by
  obtain ⟨hd, hl, ho⟩ := he
  cases (show len = 3 from hl)
  intro p e R s m args below meth c Z H locs cells slots LS A
  revert hs A
  rcases sk with _ | ⟨y | _ | _ | _ | _, _ | ⟨x | _ | _ | _ | _, r⟩⟩ <;> first | exact fun q => q.elim | skip
  intro hs A
  have hs : (amCmp .ne x y → J (amJ pc off) ls r h) ∧ (¬ amCmp .ne x y → K ls r h) := hs
  have ox : amIn x := am_hd (am_tl A.ok)
  have oy : amIn y := am_hd A.ok
  exact lv_icmp_ne A.hx A.hb hd (Int.toNat_of_nonneg ho).symm (fun q => hJ _ _ _ _ (hs.1 ((not_congr (amI_eq ox oy)).mp q)) _ _ _ _ _ _ _ _ _ _ _ _ _ _ _ (A.to (am_tl (am_tl A.ok)))) (fun q => hK _ _ _ (hs.2 (fun z => z ((amI_eq ox oy).mp q))) _ _ _ _ _ _ _ _ _ _ _ _ _ _ _ (A.to (am_tl (am_tl A.ok))))
theorem X_if_ne {off : Int} (he : amOkE M (pc, .ifCond .ne off, len, aux, S)) (hs : amStep G M Q (pc, .ifCond .ne off, len, aux, S) K J ls sk h) (hK : amHK G M Q pc len K) (hJ : amHJ G M Q J) : X G M Q pc ls sk h := by
  obtain ⟨hd, hl, ho⟩ := he
  cases (show len = 3 from hl)
  intro p e R s m args below meth c Z H locs cells slots LS A
  revert hs A
  rcases sk with _ | ⟨x | _ | _ | _ | _, r⟩ <;> first | exact fun q => q.elim | skip
  intro hs A
  have hs : (amCmp .ne x 0 → J (amJ pc off) ls r h) ∧ (¬ amCmp .ne x 0 → K ls r h) := hs
  have ox : amIn x := am_hd A.ok
  exact lv_if_ne A.hx A.hb hd (Int.toNat_of_nonneg ho).symm (fun q => hJ _ _ _ _ (hs.1 ((not_congr (amI_eq ox amIn_0)).mp (by rw [amI_0]; exact q))) _ _ _ _ _ _ _ _ _ _ _ _ _ _ _ (A.to (am_tl A.ok))) (fun q => hK _ _ _ (hs.2 (fun z => z ((amI_eq ox amIn_0).mp (by rw [amI_0]; exact q)))) _ _ _ _ _ _ _ _ _ _ _ _ _ _ _ (A.to (am_tl A.ok)))
theorem X_ic_lt {off : Int} (he : amOkE M (pc, .if_icmp .lt off, len, aux, S)) (hs : amStep G M Q (pc, .if_icmp .lt off, len, aux, S) K J ls sk h) (hK : amHK G M Q pc len K) (hJ : amHJ G M Q J) : X G M Q pc ls sk h := by
  obtain ⟨hd, hl, ho⟩ := he
  cases (show len = 3 from hl)
  intro p e R s m args below meth c Z H locs cells slots LS A
  revert hs A
  rcases sk with _ | ⟨y | _ | _ | _ | _, _ | ⟨x | _ | _ | _ | _, r⟩⟩ <;> first | exact fun q => q.elim | skip
  intro hs A
  have hs : (amCmp .lt x y → J (amJ pc off) ls r h) ∧ (¬ amCmp .lt x y → K ls r h) := hs
  have ox : amIn x := am_hd (am_tl A.ok)
  have oy : amIn y := am_hd A.ok
  exact lv_icmp_lt A.hx A.hb hd (Int.toNat_of_nonneg ho).symm (fun q => hJ _ _ _ _ (hs.1 ((amI_lt ox oy).mp q)) _ _ _ _ _ _ _ _ _ _ _ _ _ _ _ (A.to (am_tl (am_tl A.ok)))) (fun q => hK _ _ _ (hs.2 (fun z => q ((amI_lt ox oy).mpr z))) _ _ _ _ _ _ _ _ _ _ _ _ _ _ _ (A.to (am_tl (am_tl A.ok))))
theorem X_if_lt {off : Int} (he : amOkE M (pc, .ifCond .lt off, len, aux, S)) (hs : amStep G M Q (pc, .ifCond .lt off, len, aux, S) K J ls sk h) (hK : amHK G M Q pc len K) (hJ : amHJ G M Q J) : X G M Q pc ls sk h := by
  obtain ⟨hd, hl, ho⟩ := he
  cases (show len = 3 from hl)
  intro p e R s m args below meth c Z H locs cells slots LS A
  revert hs A
  rcases sk with _ | ⟨x | _ | _ | _ | _, r⟩ <;> first | exact fun q => q.elim | skip
  intro hs A
  have hs : (amCmp .lt x 0 → J (amJ pc off) ls r h) ∧ (¬ amCmp .lt x 0 → K ls r h) := hs
  have ox : amIn x := am_hd A.ok
  exact lv_if_lt A.hx A.hb hd (Int.toNat_of_nonneg ho).symm (fun q => hJ _ _ _ _ (hs.1 ((amI_lt ox amIn_0).mp (by rw [amI_0]; exact q))) _ _ _ _ _ _ _ _ _ _ _ _ _ _ _ (A.to (am_tl A.ok))) (fun q => hK _ _ _ (hs.2 (fun z => q (by have z := (amI_lt ox amIn_0).mpr z; rw [amI_0] at z; exact z))) _ _ _ _ _ _ _ _ _ _ _ _ _ _ _ (A.to (am_tl A.ok)))
theorem X_ic_ge {off : Int} (he : amOkE M (pc, .if_icmp .ge off, len, aux, S)) (hs : amStep G M Q (pc, .if_icmp .ge off, len, aux, S) K J ls sk h) (hK : amHK G M Q pc len K) (hJ : amHJ G M Q J) : X G M Q pc ls sk h := by
  obtain ⟨hd, hl, ho⟩ := he
  cases (show len = 3 from hl)
  intro p e R s m args below meth c Z H locs cells slots LS A
  revert hs A
  rcases sk with _ | ⟨y | _ | _ | _ | _, _ | ⟨x | _ | _ | _ | _, r⟩⟩ <;> first | exact fun q => q.elim | skip
  intro hs A
  have hs : (amCmp .ge x y → J (amJ pc off) ls r h) ∧ (¬ amCmp .ge x y → K ls r h) := hs
  have ox : amIn x := am_hd (am_tl A.ok)
  have oy : amIn y := am_hd A.ok
  exact lv_icmp_ge A.hx A.hb hd (Int.toNat_of_nonneg ho).symm (fun q => hJ _ _ _ _ (hs.1 ((amI_le oy ox).mp q)) _ _ _ _ _ _ _ _ _ _ _ _ _ _ _ (A.to (am_tl (am_tl A.ok)))) (fun q => hK _ _ _ (hs.2 (fun z => q ((amI_le oy ox).mpr z))) _ _ _ _ _ _ _ _ _ _ _ _ _ _ _ (A.to (am_tl (am_tl A.ok))))
theorem X_if_ge {off : Int} (he : amOkE M (pc, .ifCond .ge off, len, aux, S)) (hs : amStep G M Q (pc, .ifCond .ge off, len, aux, S) K J ls sk h) (hK : amHK G M Q pc len K) (hJ : amHJ G M Q J) : X G M Q pc ls sk h := by
  obtain ⟨hd, hl, ho⟩ := he
  cases (show len = 3 from hl)
  intro p e R s m args below meth c Z H locs cells slots LS A
  revert hs A
  rcases sk with _ | ⟨x | _ | _ | _ | _, r⟩ <;> first | exact fun q => q.elim | skip
  intro hs A
  have hs : (amCmp .ge x 0 → J (amJ pc off) ls r h) ∧ (¬ amCmp .ge x 0 → K ls r h) := hs
  have ox : amIn x := am_hd A.ok
  exact lv_if_ge A.hx A.hb hd (Int.toNat_of_nonneg ho).symm (fun q => hJ _ _ _ _ (hs.1 ((amI_le amIn_0 ox).mp (by rw [amI_0]; exact q))) _ _ _ _ _ _ _ _ _ _ _ _ _ _ _ (A.to (am_tl A.ok))) (fun q => hK _ _ _ (hs.2 (fun z => q (by have z := (amI_le amIn_0 ox).mpr z; rw [amI_0] at z; exact z))) _ _ _ _ _ _ _ _ _ _ _ _ _ _ _ (A.to (am_tl A.ok)))
theorem X_ic_gt {off : Int} (he : amOkE M (pc, .if_icmp .gt off, len, aux, S)) (hs : amStep G M Q (pc, .if_icmp .gt off, len, aux, S) K J ls sk h) (hK : amHK G M Q pc len K) (hJ : amHJ G M Q J) : X G M Q pc ls sk h := by
  obtain ⟨hd, hl, ho⟩ := he
  cases (show len = 3 from hl)
  intro p e R s m args below meth c Z H locs cells slots LS A
  revert hs A
  rcases sk with _ | ⟨y | _ | _ | _ | _, _ | ⟨x | _ | _ | _ | _, r⟩⟩ <;> first | exact fun q => q.elim | skip
  intro hs A
  have hs : (amCmp .gt x y → J (amJ pc off) ls r h) ∧ (¬ amCmp .gt x y → K ls r h) := hs
  have ox : amIn x := am_hd (am_tl A.ok)
  have oy : amIn y := am_hd A.ok
  exact lv_icmp_gt A.hx A.hb hd (Int.toNat_of_nonneg ho).symm (fun q => hJ _ _ _ _ (hs.1 ((amI_lt oy ox).mp q)) _ _ _ _ _ _ _ _ _ _ _ _ _ _ _ (A.to (am_tl (am_tl A.ok)))) (fun q => hK _ _ _ (hs.2 (fun z => q ((amI_lt oy ox).mpr z))) _ _ _ _ _ _ _ _ _ _ _ _ _ _ _ (A.to (am_tl (am_tl A.ok))))
theorem X_if_gt {off : Int} (he : amOkE M (pc, .ifCond .gt off, len, aux, S)) (hs : amStep G M Q (pc, .ifCond .gt off, len, aux, S) K J ls sk h) (hK : amHK G M Q pc len K) (hJ : amHJ G M Q J) : X G M Q pc ls sk h := by
  obtain ⟨hd, hl, ho⟩ := he
  cases (show len = 3 from hl)
  intro p e R s m args below meth c Z H locs cells slots LS A
  revert hs A
  rcases sk with _ | ⟨x | _ | _ | _ | _, r⟩ <;> first | exact fun q => q.elim | skip
  intro hs A
  have hs : (amCmp .gt x 0 → J (amJ pc off) ls r h) ∧ (¬ amCmp .gt x 0 → K ls r h) := hs
  have ox : amIn x := am_hd A.ok
  exact lv_if_gt A.hx A.hb hd (Int.toNat_of_nonneg ho).symm (fun q => hJ _ _ _ _ (hs.1 ((amI_lt amIn_0 ox).mp (by rw [amI_0]; exact q))) _ _ _ _ _ _ _ _ _ _ _ _ _ _ _ (A.to (am_tl A.ok))) (fun q => hK _ _ _ (hs.2 (fun z => q (by have z := (amI_lt amIn_0 ox).mpr z; rw [amI_0] at z; exact z))) _ _ _ _ _ _ _ _ _ _ _ _ _ _ _ (A.to (am_tl A.ok)))
theorem X_ic_le {off : Int} (he : amOkE M (pc, .if_icmp .le off, len, aux, S)) (hs : amStep G M Q (pc, .if_icmp .le off, len, aux, S) K J ls sk h) (hK : amHK G M Q pc len K) (hJ : amHJ G M Q J) : X G M Q pc ls sk h := by
  obtain ⟨hd, hl, ho⟩ := he
  cases (show len = 3 from hl)
  intro p e R s m args below meth c Z H locs cells slots LS A
  revert hs A
  rcases sk with _ | ⟨y | _ | _ | _ | _, _ | ⟨x | _ | _ | _ | _, r⟩⟩ <;> first | exact fun q => q.elim | skip
  intro hs A
  have hs : (amCmp .le x y → J (amJ pc off) ls r h) ∧ (¬ amCmp .le x y → K ls r h) := hs
  have ox : amIn x := am_hd (am_tl A.ok)
  have oy : amIn y := am_hd A.ok
  exact lv_icmp_le A.hx A.hb hd (Int.toNat_of_nonneg ho).symm (fun q => hJ _ _ _ _ (hs.1 ((amI_le ox oy).mp q)) _ _ _ _ _ _ _ _ _ _ _ _ _ _ _ (A.to (am_tl (am_tl A.ok)))) (fun q => hK _ _ _ (hs.2 (fun z => q ((amI_le ox oy).mpr z))) _ _ _ _ _ _ _ _ _ _ _ _ _ _ _ (A.to (am_tl (am_tl A.ok))))
theorem X_if_le {off : Int} (he : amOkE M (pc, .ifCond .le off, len, aux, S)) (hs : amStep G M Q (pc, .ifCond .le off, len, aux, S) K J ls sk h) (hK : amHK G M Q pc len K) (hJ : amHJ G M Q J) : X G M Q pc ls sk h := by
  obtain ⟨hd, hl, ho⟩ := he
  cases (show len = 3 from hl)
  intro p e R s m args below meth c Z H locs cells slots LS A
  revert hs A
  rcases sk with _ | ⟨x | _ | _ | _ | _, r⟩ <;> first | exact fun q => q.elim | skip
  intro hs A
  have hs : (amCmp .le x 0 → J (amJ pc off) ls r h) ∧ (¬ amCmp .le x 0 → K ls r h) := hs
  have ox : amIn x := am_hd A.ok
  exact lv_if_le A.hx A.hb hd (Int.toNat_of_nonneg ho).symm (fun q => hJ _ _ _ _ (hs.1 ((amI_le ox amIn_0).mp (by rw [amI_0]; exact q))) _ _ _ _ _ _ _ _ _ _ _ _ _ _ _ (A.to (am_tl A.ok))) (fun q => hK _ _ _ (hs.2 (fun z => q (by have z := (amI_le ox amIn_0).mpr z; rw [amI_0] at z; exact z))) _ _ _ _ _ _ _ _ _ _ _ _ _ _ _ (A.to (am_tl A.ok)))
end PureRows
end
section
/-! ===== the classes: their words, their fields' types ===== -/
theorem uw_X0 : ∀ k, k < 2 → u_lay RX0 TX0 k ∈ lw_tbl := by
  intro k hk
  match k, hk with
  | 0, _ => exact tw_248
  | 1, _ => exact tw_250
theorem uw_X1 : ∀ k, k < 2 → u_lay RX1 TX1 k ∈ lw_tbl := by
  intro k hk
  match k, hk with
  | 0, _ => exact tw_199
  | 1, _ => exact tw_201
theorem uw_X2 : ∀ k, k < 1 → u_lay RX2 TX2 k ∈ lw_tbl := by
  intro k hk
  match k, hk with
  | 0, _ => exact tw_262
theorem uw_X3 : ∀ k, k < 4 → u_lay RX3 TX3 k ∈ lw_tbl := by
  intro k hk
  match k, hk with
  | 0, _ => exact tw_128
  | 1, _ => exact tw_130
  | 2, _ => exact tw_132
  | 3, _ => exact tw_134
theorem uw_X4 : ∀ k, k < 3 → u_lay RX4 TX4 k ∈ lw_tbl := by
  intro k hk
  match k, hk with
  | 0, _ => exact tw_239
  | 1, _ => exact tw_241
  | 2, _ => exact tw_243
theorem uw_X5 : ∀ k, k < 1 → u_lay RX5 TX5 k ∈ lw_tbl := by
  intro k hk
  match k, hk with
  | 0, _ => exact tw_54
theorem uw_X6 : ∀ k, k < 4 → u_lay RX6 TX6 k ∈ lw_tbl := by
  intro k hk
  match k, hk with
  | 0, _ => exact tw_213
  | 1, _ => exact tw_215
  | 2, _ => exact tw_217
  | 3, _ => exact tw_219
theorem uw_X7 : ∀ k, k < 8 → u_lay RX7 TX7 k ∈ lw_tbl := by
  intro k hk
  match k, hk with
  | 0, _ => exact tw_97
  | 1, _ => exact tw_99
  | 2, _ => exact tw_101
  | 3, _ => exact tw_103
  | 4, _ => exact tw_105
  | 5, _ => exact tw_107
  | 6, _ => exact tw_109
  | 7, _ => exact tw_111
theorem uw_X8 : ∀ k, k < 10 → u_lay RX8 TX8 k ∈ lw_tbl := by
  intro k hk
  match k, hk with
  | 0, _ => exact tw_166
  | 1, _ => exact tw_168
  | 2, _ => exact tw_170
  | 3, _ => exact tw_172
  | 4, _ => exact tw_174
  | 5, _ => exact tw_176
  | 6, _ => exact tw_178
  | 7, _ => exact tw_180
  | 8, _ => exact tw_182
  | 9, _ => exact tw_184
theorem uw_X9 : ∀ k, k < 6 → u_lay RX9 TX9 k ∈ lw_tbl := by
  intro k hk
  match k, hk with
  | 0, _ => exact tw_271
  | 1, _ => exact tw_273
  | 2, _ => exact tw_275
  | 3, _ => exact tw_277
  | 4, _ => exact tw_279
  | 5, _ => exact tw_281
theorem uw_all {C : String} {T : u_T} {N : Nat} (h : ∀ k, k < N → u_lay C T k ∈ lw_tbl) : ∀ w ∈ u_ws C T N, w ∈ lw_tbl := by
  intro w hw
  obtain ⟨k, hk, rfl⟩ := List.mem_map.mp hw
  exact h k (List.mem_range.mp hk)
def amKd (t : Nat) (ty : FieldType) : Prop := (t = 0 ∧ ty = .int) ∨ (t = 1 ∧ ty.isReference = true) ∨ (t = 2 ∧ ty = .long)
/-- what holds of a class of the world -/
def amClsOk (ci : Nat) (C : String) (T : u_T) (N : Nat) : Prop :=
  ci < 11 ∧ (∀ w ∈ u_ws C T N, w ∈ lw_tbl) ∧ (∀ k, k < N → parseFieldDescriptor (T k).2.2.1 = some (amFT ci k)) ∧ (∀ a, a < N → ∀ b, b < N → a ≠ b → (T a).2.1 ≠ (T b).2.1) ∧ N = (amF ci).length ∧ (∀ k, k < N → amKd ((amF ci).getD k 9) (amFT ci k))
theorem am_kd0 : ∀ k, k < 2 → amKd ((amF 0).getD k 9) (amFT 0 k) := by
  intro k hk
  match k, hk with
  | 0, _ => exact Or.inr (Or.inl ⟨rfl, rfl⟩)
  | 1, _ => exact Or.inr (Or.inl ⟨rfl, rfl⟩)
theorem am_kd1 : ∀ k, k < 2 → amKd ((amF 1).getD k 9) (amFT 1 k) := by
  intro k hk
  match k, hk with
  | 0, _ => exact Or.inr (Or.inl ⟨rfl, rfl⟩)
  | 1, _ => exact Or.inl ⟨rfl, rfl⟩
theorem am_kd2 : ∀ k, k < 1 → amKd ((amF 2).getD k 9) (amFT 2 k) := by
  intro k hk
  match k, hk with
  | 0, _ => exact Or.inr (Or.inl ⟨rfl, rfl⟩)
theorem am_kd3 : ∀ k, k < 4 → amKd ((amF 3).getD k 9) (amFT 3 k) := by
  intro k hk
  match k, hk with
  | 0, _ => exact Or.inl ⟨rfl, rfl⟩
  | 1, _ => exact Or.inl ⟨rfl, rfl⟩
  | 2, _ => exact Or.inl ⟨rfl, rfl⟩
  | 3, _ => exact Or.inl ⟨rfl, rfl⟩
theorem am_kd4 : ∀ k, k < 3 → amKd ((amF 4).getD k 9) (amFT 4 k) := by
  intro k hk
  match k, hk with
  | 0, _ => exact Or.inr (Or.inl ⟨rfl, rfl⟩)
  | 1, _ => exact Or.inr (Or.inl ⟨rfl, rfl⟩)
  | 2, _ => exact Or.inr (Or.inl ⟨rfl, rfl⟩)
theorem am_kd5 : ∀ k, k < 1 → amKd ((amF 5).getD k 9) (amFT 5 k) := by
  intro k hk
  match k, hk with
  | 0, _ => exact Or.inr (Or.inl ⟨rfl, rfl⟩)
theorem am_kd6 : ∀ k, k < 4 → amKd ((amF 6).getD k 9) (amFT 6 k) := by
  intro k hk
  match k, hk with
  | 0, _ => exact Or.inr (Or.inl ⟨rfl, rfl⟩)
  | 1, _ => exact Or.inl ⟨rfl, rfl⟩
  | 2, _ => exact Or.inr (Or.inl ⟨rfl, rfl⟩)
  | 3, _ => exact Or.inr (Or.inl ⟨rfl, rfl⟩)
theorem am_kd7 : ∀ k, k < 8 → amKd ((amF 7).getD k 9) (amFT 7 k) := by
  intro k hk
  match k, hk with
  | 0, _ => exact Or.inl ⟨rfl, rfl⟩
  | 1, _ => exact Or.inl ⟨rfl, rfl⟩
  | 2, _ => exact Or.inl ⟨rfl, rfl⟩
  | 3, _ => exact Or.inl ⟨rfl, rfl⟩
  | 4, _ => exact Or.inl ⟨rfl, rfl⟩
  | 5, _ => exact Or.inl ⟨rfl, rfl⟩
  | 6, _ => exact Or.inl ⟨rfl, rfl⟩
  | 7, _ => exact Or.inl ⟨rfl, rfl⟩
theorem am_kd8 : ∀ k, k < 10 → amKd ((amF 8).getD k 9) (amFT 8 k) := by
  intro k hk
  match k, hk with
  | 0, _ => exact Or.inr (Or.inl ⟨rfl, rfl⟩)
  | 1, _ => exact Or.inr (Or.inl ⟨rfl, rfl⟩)
  | 2, _ => exact Or.inr (Or.inl ⟨rfl, rfl⟩)
  | 3, _ => exact Or.inl ⟨rfl, rfl⟩
  | 4, _ => exact Or.inr (Or.inl ⟨rfl, rfl⟩)
  | 5, _ => exact Or.inl ⟨rfl, rfl⟩
  | 6, _ => exact Or.inl ⟨rfl, rfl⟩
  | 7, _ => exact Or.inl ⟨rfl, rfl⟩
  | 8, _ => exact Or.inl ⟨rfl, rfl⟩
  | 9, _ => exact Or.inr (Or.inl ⟨rfl, rfl⟩)
theorem am_kd9 : ∀ k, k < 6 → amKd ((amF 9).getD k 9) (amFT 9 k) := by
  intro k hk
  match k, hk with
  | 0, _ => exact Or.inr (Or.inl ⟨rfl, rfl⟩)
  | 1, _ => exact Or.inr (Or.inl ⟨rfl, rfl⟩)
  | 2, _ => exact Or.inr (Or.inl ⟨rfl, rfl⟩)
  | 3, _ => exact Or.inr (Or.inl ⟨rfl, rfl⟩)
  | 4, _ => exact Or.inr (Or.inl ⟨rfl, rfl⟩)
  | 5, _ => exact Or.inr (Or.inl ⟨rfl, rfl⟩)
theorem amCls : ∀ (ci : Nat) (C : String) (T : u_T) (N : Nat), vwCl[ci]? = some (C, T, N) → amClsOk ci C T N := by
  intro ci C T N h
  match ci, h with
  | 0, h => cases h; exact ⟨by decide, uw_all uw_X0, tyX0_ok, nmX0, rfl, am_kd0⟩
  | 1, h => cases h; exact ⟨by decide, uw_all uw_X1, tyX1_ok, nmX1, rfl, am_kd1⟩
  | 2, h => cases h; exact ⟨by decide, uw_all uw_X2, tyX2_ok, nmX2, rfl, am_kd2⟩
  | 3, h => cases h; exact ⟨by decide, uw_all uw_X3, tyX3_ok, nmX3, rfl, am_kd3⟩
  | 4, h => cases h; exact ⟨by decide, uw_all uw_X4, tyX4_ok, nmX4, rfl, am_kd4⟩
  | 5, h => cases h; exact ⟨by decide, uw_all uw_X5, tyX5_ok, nmX5, rfl, am_kd5⟩
  | 6, h => cases h; exact ⟨by decide, uw_all uw_X6, tyX6_ok, nmX6, rfl, am_kd6⟩
  | 7, h => cases h; exact ⟨by decide, uw_all uw_X7, tyX7_ok, nmX7, rfl, am_kd7⟩
  | 8, h => cases h; exact ⟨by decide, uw_all uw_X8, tyX8_ok, nmX8, rfl, am_kd8⟩
  | 9, h => cases h; exact ⟨by decide, uw_all uw_X9, tyX9_ok, nmX9, rfl, am_kd9⟩
  | k + 10, h => simp [vwCl] at h
end
section
/-! ===== the rows of the abstract machine: fields and arrays ===== -/
theorem amWs_at {B : Nat} {cA : Nat → ClassId} {h : amH} {a : Nat} {s : Nat × Nat} (hs : (hS h)[a]? = some s) : (amWs B cA h)[a]? = some (B + a, amCell B cA h a s) := by
  simp [amWs, List.getElem?_map, List.getElem?_zipIdx, hs]
theorem amWs_inv {B : Nat} {cA : Nat → ClassId} {h : amH} {a : Nat} {q : Nat × va_E} (hq : (amWs B cA h)[a]? = some q) : ∃ s, (hS h)[a]? = some s ∧ q = (B + a, amCell B cA h a s) := by
  cases hs : (hS h)[a]? with
  | none => simp [amWs, List.getElem?_map, List.getElem?_zipIdx, hs] at hq
  | some s => rw [amWs_at hs] at hq; cases hq; exact ⟨s, rfl, rfl⟩
theorem amWs_D (B : Nat) (cA : Nat → ClassId) (h : amH) : va_D (fun q => B ≤ q) (amWs B cA h) := by
  refine ⟨fun i j x y hx hy e => ?_, fun k q hq => ?_⟩
  · obtain ⟨s, -, rfl⟩ := amWs_inv hx
    obtain ⟨t, -, rfl⟩ := amWs_inv hy
    have e : B + i = B + j := e
    omega
  · obtain ⟨s, -, rfl⟩ := amWs_inv hq
    exact Nat.le_add_right _ _
theorem amVal_eq {B : Nat} {h h' : amH} {a : Nat} (e1 : ∀ j, hI h' a j = hI h a j) (e2 : ∀ j, hR h' a j = hR h a j) (e3 : ∀ j, hL h' a j = hL h a j) (t k : Nat) : amVal B h' t a k = amVal B h t a k := by
  unfold amVal
  rw [e1, e2, e3]
theorem amCell_eq {B : Nat} {cA : Nat → ClassId} {h h' : amH} {a : Nat} (e1 : ∀ j, hI h' a j = hI h a j) (e2 : ∀ j, hR h' a j = hR h a j) (e3 : ∀ j, hL h' a j = hL h a j) (s : Nat × Nat) : amCell B cA h' a s = amCell B cA h a s := by
  have e4 : amFs B h' s.1 a = amFs B h s.1 a := by
    unfold amFs
    exact List.map_congr_left (fun q _ => amVal_eq e1 e2 e3 _ _)
  have f1 : (fun j => Int32.ofInt (hI h' a j)) = (fun j => Int32.ofInt (hI h a j)) := funext (fun j => by rw [e1])
  have f2 : (fun j => (hR h' a j).map (B + ·)) = (fun j => (hR h a j).map (B + ·)) := funext (fun j => by rw [e2])
  have f3 : (fun j => hL h' a j) = (fun j => hL h a j) := funext (fun j => by rw [e3])
  unfold amCell
  rw [e4, f1, f2, f3]
theorem amFs_at {B : Nat} {h : amH} {ci a k t : Nat} (ht : (amF ci)[k]? = some t) : (amFs B h ci a)[k]? = some (amVal B h t a k) := by
  simp [amFs, List.getElem?_map, List.getElem?_zipIdx, ht]
theorem amFs_len (B : Nat) (h : amH) (ci a : Nat) : (amFs B h ci a).length = (amF ci).length := by simp [amFs]
/-- one field written: the object's fields by the new world -/
theorem amFs_set {B : Nat} {h h' : amH} {ci a k t : Nat} {v : Value} (ht : (amF ci)[k]? = some t) (hv : amVal B h' t a k = v) (ho : ∀ j t', j ≠ k → amVal B h' t' a j = amVal B h t' a j) : (amFs B h ci a).set k v = amFs B h' ci a := by
  have hk : k < (amF ci).length := (List.getElem?_eq_some_iff.mp ht).1
  refine List.ext_getElem? (fun j => ?_)
  by_cases hj : j = k
  · subst hj
    rw [List.getElem?_set_self (by rw [amFs_len]; exact hk), amFs_at ht, hv]
  · rw [List.getElem?_set_ne (Ne.symm hj)]
    cases hq : (amF ci)[j]? with
    | none =>
      have h1 : (amF ci).length ≤ j := by simpa using hq
      rw [List.getElem?_eq_none (by rw [amFs_len]; exact h1), List.getElem?_eq_none (by rw [amFs_len]; exact h1)]
    | some t' => rw [amFs_at hq, amFs_at hq, ho j t' hj]
section HeapRows
variable {G : amG} {M : amM} {Q : amR → amH → Prop} {p : Program} {e : Env} {R : Room} {s : State} {m : MethodId} {args : Array Value} {below : List Frame} {meth : Method} {c : Code} {Z : State → Prop} {H : Heap} {locs : List Loc} {cells slots : Nat} {LS : Array Slot} {ls : List (Option amV)} {sk : List amV} {h : amH}
variable {K : amK1} {J : amJ1} {pc len : Nat} {aux : Nat × Nat × Nat} {S : Option amS}
theorem amA.hW (A : amA G M Q p e R s m args below meth c Z H locs cells slots LS ls sk h) : (gs G).WarmedH s.vm := A.2.1.2.2.2.2.2.2.1
theorem amA.hown (A : amA G M Q p e R s m args below meth c Z H locs cells slots LS ls sk h) : s.vm.findClass M.2.1 = some m.cls := A.2.1.2.2.2.2.2.1
theorem amA.rel (A : amA G M Q p e R s m args below meth c Z H locs cells slots LS ls sk h) : amRel G h H := A.2.2.2.1
theorem amA.w (A : amA G M Q p e R s m args below meth c Z H locs cells slots LS ls sk h) {w : Jvm.Cond} (hw : w ∈ lw_tbl) (g : goodWord w = true) (a' : Array Value) : w.before a' s = true :=
  word_at A.hW (good_of_word g) (A.1.2.1 w hw)
theorem amA.k (A : amA G M Q p e R s m args below meth c Z H locs cells slots LS ls sk h) : va_K (gD G) vwCl (amTys G) s := va_K.moved A.hW.alike A.1.2.2.1
theorem amA.vs (A : amA G M Q p e R s m args below meth c Z H locs cells slots LS ls sk h) : va_S (fun q => gB G ≤ q) s.heap H locs :=
  ⟨A.2.2.2.2.1, fun q _ h2 => by
    have hq : q < gB G := Nat.not_le.mp h2
    rw [A.rel.2.2.1 q hq, A.2.1.2.2.2.2.2.2.2.2.2.2.2.2 q hq], A.2.2.2.2.2.1⟩
/-- another world, on another heap -/
theorem amA.world (A : amA G M Q p e R s m args below meth c Z H locs cells slots LS ls sk h) {h' : amH} {H' : Heap} {locs' : List Loc} {cells' slots' : Nat} {sk' : List amV} (hr : amRel G h' H') (hz : H.size ≤ H'.size) (hl : ∀ z ∈ locs', gB G ≤ z.base) (h1 : cells' + hC h' = R.cells) (h2 : slots' + hT h' = R.slots) (hs : ∀ v ∈ sk', amOk v) : amA G M Q p e R s m args below meth c Z H' locs' cells' slots' LS ls sk' h' :=
  ⟨A.1, A.2.1, A.2.2.1, hr, Nat.le_trans A.2.2.2.2.1 hz, hl, h1, h2, A.hl, hs⟩
theorem amRel_set {h' : amH} {H' : Heap} {a : Nat} {s0 : Nat × Nat} (hr : amRel G h H) (hs : (hS h)[a]? = some s0) (eS : hS h' = hS h) (eX : hX h' = hX h) (hI' : ∀ a k : Nat, amIn (hI h' a k)) (ho : ∀ k, k ≠ a → ∀ s1, amCell (gB G) (gA G) h' k s1 = amCell (gB G) (gA G) h k s1) (he : va_at (gD G) vwCl (gB G + a, amCell (gB G) (gA G) h' a s0) H') (hz : H'.size = H.size) (oq : ∀ q, q ≠ gB G + a → H'[q]? = H[q]?) : amRel G h' H' := by
  refine ⟨fun k q hq => ?_, hI', fun q hq => ?_, ?_, ?_⟩
  · obtain ⟨s1, h1, rfl⟩ := amWs_inv hq
    rw [eS] at h1
    by_cases hk : k = a
    · subst hk
      cases hs.symm.trans h1
      exact he
    · rw [ho k hk]
      exact (hr.1 k _ (amWs_at h1)).kept (oq _ (by show gB G + k ≠ gB G + a; omega))
  · rw [oq q (by have : q < gB G := hq; omega)]
    exact hr.2.2.1 q hq
  · rw [hz, eS]; exact hr.2.2.2.1
  · rw [hz, eS, eX]; exact hr.2.2.2.2
theorem am_locs {locs : List Loc} {B a k : Nat} (h : ∀ z ∈ locs, B ≤ z.base) : ∀ z ∈ locs ++ [⟨B + a, k⟩], B ≤ z.base := fun z hz => by
  rcases List.mem_append.mp hz with q | q
  · exact h z q
  · cases List.mem_singleton.mp q; exact Nat.le_add_right _ _
theorem X_getfield {idx ci k t : Nat} (he : amOkE M (pc, .getfield idx, len, (ci, k, t), S)) (hs : amStep G M Q (pc, .getfield idx, len, (ci, k, t), S) K J ls sk h) (hK : amHK G M Q pc len K) : X G M Q pc ls sk h := by
  obtain ⟨hd, hl, C, T, N, hc, hk, ht, hw⟩ := he
  cases (show len = 3 from hl)
  dsimp only at hc hk ht hw
  intro p e R s m args below meth c Z H locs cells slots LS A
  revert hs A
  rcases sk with _ | ⟨_ | (_ | a) | _ | _ | _, r⟩ <;> first | exact fun q => q.elim | skip
  intro hs A
  obtain ⟨h0, hs⟩ := (id hs : _ ∧ _)
  obtain ⟨hci, hu, -, -, -, hkd⟩ := amCls ci C T N hc
  have e1 : amCell (gB G) (gA G) h a (ci, 0) = .inr (ci, amFs (gB G) h ci a) := if_pos hci
  have e2 := amWs_at (B := gB G) (cA := gA G) h0
  rw [e1] at e2
  have hkd1 := hkd k hk
  rw [List.getD_eq_getElem?_getD, ht] at hkd1
  have hkd1 : amKd t (amFT ci k) := hkd1
  refine va_get A.hx A.hb (Ts := u_ws C T N) (fun w hw' => A.w (hu w hw') (by
    obtain ⟨j, -, rfl⟩ := List.mem_map.mp hw'
    unfold u_lay
    split <;> rfl) args) (fun _ q => q) A.hown A.k A.rel.1 a e2 hc k hk (A.w hw rfl args) (fun _ q => q) (amFs_at ht) hd ?_
  rcases hkd1 with ⟨rfl, -⟩ | ⟨rfl, -⟩ | ⟨rfl, -⟩
  · exact hK _ _ _ hs _ _ _ _ _ _ _ _ _ _ _ _ _ _ _ (A.to (am_all1 (v := aI (hI h a k)) (A.rel.2.1 a k) (am_tl A.ok)))
  · obtain ⟨b, hb, hs⟩ := (id hs : ∃ _, _)
    have q := hK _ _ _ hs _ _ _ _ _ _ _ _ _ _ _ _ _ _ _ (A.to (am_all1 (v := aR (some b)) trivial (am_tl A.ok)))
    have e3 : amVal (gB G) h 1 a k = amRv (gB G) (aR (some b)) := by
      show va_rf ((hR h a k).map (gB G + ·)) = _
      rw [hb]; rfl
    rw [e3]
    exact q
  · exact hK _ _ _ hs _ _ _ _ _ _ _ _ _ _ _ _ _ _ _ (A.to (am_all1 (v := aL (hL h a k)) trivial (am_tl A.ok)))
/-- what a field's own type takes -/
theorem am_nf {t : Nat} {ty : FieldType} (hk : amKd t ty) (B : Nat) (v : amV) (hv : (t = 0 ∧ ∃ x, v = aI x) ∨ (t = 1 ∧ ∃ r, v = aR r) ∨ (t = 2 ∧ ∃ x, v = aL x)) : narrow ty (amRv B v) = amRv B v ∧ fits ty (amRv B v) = true := by
  rcases hk with ⟨rfl, rfl⟩ | ⟨rfl, hr⟩ | ⟨rfl, rfl⟩ <;> rcases hv with ⟨h, x, rfl⟩ | ⟨h, x, rfl⟩ | ⟨h, x, rfl⟩ <;> first | omega | skip
  · exact ⟨rfl, rfl⟩
  · cases ty <;> first | (cases hr; done) | skip
    all_goals cases x <;> exact ⟨rfl, rfl⟩
  · exact ⟨rfl, rfl⟩
/-- a field written -/
theorem am_put {idx ci k t a : Nat} {v : amV} {r : List amV} {h' : amH} (A : amA G M Q p e R s m args below meth c Z H locs cells slots LS ls (v :: aR (some a) :: r) h) (hF : amFld M idx ci k t) (hN : amFin M ci k) (hd : decode (sb M.1) pc = .ok (.putfield idx, 3)) (h0 : (hS h)[a]? = some (ci, 0))
    (hv : (t = 0 ∧ ∃ x, v = aI x) ∨ (t = 1 ∧ ∃ r, v = aR r) ∨ (t = 2 ∧ ∃ x, v = aL x)) (eS : hS h' = hS h) (eX : hX h' = hX h) (eC : hC h' = hC h) (eT : hT h' = hT h) (hI' : ∀ a k : Nat, amIn (hI h' a k)) (ho : ∀ j, j ≠ a → ∀ s1, amCell (gB G) (gA G) h' j s1 = amCell (gB G) (gA G) h j s1) (hval : amVal (gB G) h' t a k = amRv (gB G) v) (hoth : ∀ j t', j ≠ k → amVal (gB G) h' t' a j = amVal (gB G) h t' a j)
    (hK : X G M Q (pc + 3) ls r h') : W p (gl G) e R s m args below meth c H locs cells slots Z (F0 m pc LS ((v :: aR (some a) :: r).map (amRv (gB G)))) := by
  obtain ⟨C, T, N, hc, hk, ht, hw⟩ := hF
  obtain ⟨hci, hu, hty, hnm, -, hkd⟩ := amCls ci C T N hc
  have e1 : amCell (gB G) (gA G) h a (ci, 0) = .inr (ci, amFs (gB G) h ci a) := if_pos hci
  have e1' : amCell (gB G) (gA G) h' a (ci, 0) = .inr (ci, amFs (gB G) h' ci a) := if_pos hci
  have e2 := amWs_at (B := gB G) (cA := gA G) h0
  rw [e1] at e2
  have hkd1 := hkd k hk
  rw [List.getD_eq_getElem?_getD, ht] at hkd1
  have hkd1 : amKd t (amFT ci k) := hkd1
  obtain ⟨hn, hfit⟩ := am_nf hkd1 (gB G) v hv
  have hu' : ∀ w ∈ u_ws C T N, w.before args s = true := fun w hw' => A.w (hu w hw') (by
    obtain ⟨j, -, rfl⟩ := List.mem_map.mp hw'
    unfold u_lay
    split <;> rfl) args
  have hap := va_apart (own := M.2.1) hu' (fun _ q => q) (amFT ci) hty hnm A.k hc
  obtain ⟨rr, h1, cell, q1, q2, q3, q4⟩ := A.rel.1 a _ e2
  have hr : rr = (C, T, N) := Option.some.inj (h1.symm.trans hc)
  subst hr
  obtain ⟨hS1, hfc, kC, hkC, hkind⟩ := A.k.1 ci _ hc
  obtain ⟨cf, kf, fi, f, hi, hsl⟩ := hS1 k hk
  have hlay := hu' _ (u_in_lay hk)
  have hst := (u_facts hfc hkC (u_lays hu' (fun _ q => q) hk) hi).1
  have hlen : k < (amFs (gB G) h ci a).length := by rw [amFs_len]; exact (List.getElem?_eq_some_iff.mp ht).1
  have fin : ∀ H' : Heap, H'[gB G + a]? = some (cell.setSlot f.slot (amRv (gB G) v)) → H'.size = H.size → (∀ q, q ≠ gB G + a → H'[q]? = H[q]?) → W p (gl G) e R s m args below meth c H' (locs ++ [⟨gB G + a, f.slot⟩]) cells slots Z (F0 m (pc + 3) LS (r.map (amRv (gB G)))) := by
    intro H' e3 e4 e5
    rw [hsl] at e3
    have hat : va_at (gD G) vwCl (gB G + a, amCell (gB G) (gA G) h' a (ci, 0)) H' := by
      rw [e1', ← amFs_set ht hval hoth]
      exact ⟨_, hc, t_OB.to (V := updV (vp_V (amFs (gB G) h ci a)) k (amRv (gB G) v)) ⟨_, e3, q2, q3, t_set q4 hap hk _⟩ (fun j _ => vp_updV_set hlen _ j)⟩
    exact hK _ _ _ _ _ _ _ _ _ _ _ _ _ _ _ (A.world (amRel_set A.rel h0 eS eX hI' ho hat e4 e5) (Nat.le_of_eq e4.symm) (am_locs A.2.2.2.2.2.1) (by rw [eC]; exact A.2.2.2.2.2.2.1) (by rw [eT]; exact A.2.2.2.2.2.2.2.1) (am_tl (am_tl A.ok)))
  by_cases hfin : (T k).2.2.2 = true
  · obtain ⟨hdecl, hin2⟩ := hN C T N hc hfin
    have hlay2 := hlay
    unfold u_lay at hlay2
    rw [if_pos hfin] at hlay2
    have hcf : m.cls = cf := by
      obtain ⟨_, _, c', _, _, _, -, -, hf', -, -, -, hown2, -⟩ := Cond.laysFinal_spec hlay2
      have e1 : c' = cf := by have := hi.symm.trans hf'; simp at this; exact this.1.symm
      rw [hdecl] at hown2
      rw [← e1]; exact Option.some.inj (A.hown.symm.trans hown2)
    have h6 := u_fits hfc hkC hkind (Or.inr hlay2) hi (hty k hk) hn hfit
    exact W.putFinK A.hx A.hb A.hown (A.w hw rfl args) hi hst hcf (A.2.1.2.2.2.2.2.2.2.2.2.2.2.1 hin2) (by rw [q2]; exact h6) q1 q3 (by rw [hsl]; exact k2_hasslot (q4 k hk)) rfl rfl hd fin
  · have hlay2 := hlay
    unfold u_lay at hlay2
    rw [if_neg hfin] at hlay2
    have h6 := u_store hfc hkC hkind hlay2 hi (hty k hk) hn hfit
    exact W.putK A.hx A.hb (f := f) ⟨A.hown, A.w hw rfl args, ⟨_, _, _, hi⟩, hst⟩ (by rw [q2]; exact h6) q1 q3 (by rw [hsl]; exact k2_hasslot (q4 k hk)) rfl rfl hd fin
end HeapRows
end
section
/-! ===== the rows of the abstract machine: stores, arrays, what is new ===== -/
theorem u2_row {α : Type} {f : Nat → Nat → α} {a k : Nat} {v : α} {j : Nat} (h : j ≠ a) : ∀ y, u2 f a k v j y = f j y := fun y => u2_ne f v (fun q => h q.1)
theorem u2_oth {α : Type} {f : Nat → Nat → α} {a k : Nat} {v : α} {j : Nat} (h : j ≠ k) : u2 f a k v a j = f a j := u2_ne f v (fun q => h q.2)
theorem amIn_u2 {f : Nat → Nat → Int} {a k : Nat} {v : Int} (h : ∀ x y, amIn (f x y)) (hv : amIn v) : ∀ x y, amIn (u2 f a k v x y) := fun x y => by
  unfold u2
  split
  · exact hv
  · exact h x y
theorem amI_cl {i : Int} (h0 : 0 ≤ i) (h1 : i ≤ 2147483647) : (Int32.ofInt i).toNatClampNeg = i.toNat := by
  show (Int32.ofInt i).toInt.toNat = _
  rw [amI_t ⟨by omega, h1⟩]
theorem amI_vp {i : Int} {n : Nat} (hi : amIn i) (h : 0 ≤ i ∧ i < n) : vp_in (Int32.ofInt i) n := by
  rw [vp_in_iff, amI_t hi]
  exact h
theorem am_upd {α : Type} {f g : Nat → α} {k : Nat} {v : α} (h1 : g k = v) (h2 : ∀ j, j ≠ k → g j = f j) : (fun j => if j = k then v else f j) = g := funext (fun j => by
  by_cases hj : j = k
  · rw [if_pos hj, hj, h1]
  · rw [if_neg hj, h2 j hj])
theorem amCell_pI {B : Nat} {cA : Nat → ClassId} {h : amH} {a k : Nat} {x : Int} {j : Nat} (hj : j ≠ a) (s1 : Nat × Nat) : amCell B cA (hPutI h a k x) j s1 = amCell B cA h j s1 := amCell_eq (h := h) (h' := hPutI h a k x) (u2_row hj) (fun _ => rfl) (fun _ => rfl) s1
theorem amCell_pR {B : Nat} {cA : Nat → ClassId} {h : amH} {a k : Nat} {x : Option Nat} {j : Nat} (hj : j ≠ a) (s1 : Nat × Nat) : amCell B cA (hPutR h a k x) j s1 = amCell B cA h j s1 := amCell_eq (h := h) (h' := hPutR h a k x) (fun _ => rfl) (u2_row hj) (fun _ => rfl) s1
theorem amCell_pL {B : Nat} {cA : Nat → ClassId} {h : amH} {a k : Nat} {x : Int64} {j : Nat} (hj : j ≠ a) (s1 : Nat × Nat) : amCell B cA (hPutL h a k x) j s1 = amCell B cA h j s1 := amCell_eq (h := h) (h' := hPutL h a k x) (fun _ => rfl) (fun _ => rfl) (u2_row hj) s1
theorem amVal_pI {B : Nat} {h : amH} {a k : Nat} {x : Int} {j : Nat} (hj : j ≠ k) (t : Nat) : amVal B (hPutI h a k x) t a j = amVal B h t a j := by
  match t with
  | 0 => show Value.int (Int32.ofInt (u2 h.1 a k x a j)) = _; rw [u2_oth hj]; rfl
  | 1 => rfl
  | _ + 2 => rfl
theorem amVal_pR {B : Nat} {h : amH} {a k : Nat} {x : Option Nat} {j : Nat} (hj : j ≠ k) (t : Nat) : amVal B (hPutR h a k x) t a j = amVal B h t a j := by
  match t with
  | 0 => rfl
  | 1 => show va_rf ((u2 h.2.1 a k x a j).map _) = _; rw [u2_oth hj]; rfl
  | _ + 2 => rfl
theorem amVal_pL {B : Nat} {h : amH} {a k : Nat} {x : Int64} {j : Nat} (hj : j ≠ k) (t : Nat) : amVal B (hPutL h a k x) t a j = amVal B h t a j := by
  match t with
  | 0 => rfl
  | 1 => rfl
  | _ + 2 => show Value.long (u2 h.2.2.1 a k x a j) = _; rw [u2_oth hj]; rfl
section HeapRows
variable {G : amG} {M : amM} {Q : amR → amH → Prop} {p : Program} {e : Env} {R : Room} {s : State} {m : MethodId} {args : Array Value} {below : List Frame} {meth : Method} {c : Code} {Z : State → Prop} {H : Heap} {locs : List Loc} {cells slots : Nat} {LS : Array Slot} {ls : List (Option amV)} {sk : List amV} {h : amH}
variable {K : amK1} {J : amJ1} {pc len : Nat} {aux : Nat × Nat × Nat} {S : Option amS}
theorem X_putfield {idx ci k t : Nat} (he : amOkE M (pc, .putfield idx, len, (ci, k, t), S)) (hs : amStep G M Q (pc, .putfield idx, len, (ci, k, t), S) K J ls sk h) (hK : amHK G M Q pc len K) : X G M Q pc ls sk h := by
  obtain ⟨hd, hl, hF, hN⟩ := he
  cases (show len = 3 from hl)
  dsimp only at hF hN
  intro p e R s m args below meth c Z H locs cells slots LS A
  revert hs A
  rcases sk with _ | ⟨x | v | x | _ | _, _ | ⟨_ | (_ | a) | _ | _ | _, r⟩⟩ <;> first | exact fun q => q.elim | skip
  · intro hs A
    have ht : t = 0 := by
      match t, hs with
      | 0, _ => rfl
      | n + 1, hs => exact hs.elim
    subst ht
    obtain ⟨h0, hs⟩ := (id hs : _ ∧ _)
    exact am_put (v := aI x) (h' := hPutI h a k x) A hF hN hd h0 (Or.inl ⟨rfl, x, rfl⟩) rfl rfl rfl rfl (amIn_u2 A.rel.2.1 (am_hd A.ok)) (fun j hj s1 => amCell_pI hj s1) (by show Value.int (Int32.ofInt (u2 h.1 a k x a k)) = _; rw [u2_same]; rfl) (fun j t' hj => amVal_pI hj t') (hK _ _ _ hs)
  · intro hs A
    have ht : t = 1 := by
      match t, hs with
      | 1, _ => rfl
      | 0, hs => exact hs.elim
      | n + 2, hs => exact hs.elim
    subst ht
    obtain ⟨h0, hs⟩ := (id hs : _ ∧ _)
    exact am_put (v := aR v) (h' := hPutR h a k v) A hF hN hd h0 (Or.inr (Or.inl ⟨rfl, v, rfl⟩)) rfl rfl rfl rfl A.rel.2.1 (fun j hj s1 => amCell_pR hj s1) (by show va_rf ((u2 h.2.1 a k v a k).map _) = _; rw [u2_same]; cases v <;> rfl) (fun j t' hj => amVal_pR hj t') (hK _ _ _ hs)
  · intro hs A
    have ht : t = 2 := by
      match t, hs with
      | 2, _ => rfl
      | 0, hs => exact hs.elim
      | 1, hs => exact hs.elim
      | n + 3, hs => exact hs.elim
    subst ht
    obtain ⟨h0, hs⟩ := (id hs : _ ∧ _)
    exact am_put (v := aL x) (h' := hPutL h a k x) A hF hN hd h0 (Or.inr (Or.inr ⟨rfl, x, rfl⟩)) rfl rfl rfl rfl A.rel.2.1 (fun j hj s1 => amCell_pL hj s1) (by show Value.long (u2 h.2.2.1 a k x a k) = _; rw [u2_same]; rfl) (fun j t' hj => amVal_pL hj t') (hK _ _ _ hs)
theorem am_ty (G : amG) (k : Nat) (hk : k < 5) : (amTys G)[k]? = some (gA G (20 + k), amAK (20 + k)) := by
  match k, hk with
  | 0, _ => rfl
  | 1, _ => rfl
  | 2, _ => rfl
  | 3, _ => rfl
  | 4, _ => rfl
theorem am_c20 (B : Nat) (cA : Nat → ClassId) (h : amH) (a n : Nat) : amCell B cA h a (20, n) = .inl (cA 20, n, .inl (fun j => Int32.ofInt (hI h a j))) := rfl
theorem am_c21 (B : Nat) (cA : Nat → ClassId) (h : amH) (a n : Nat) : amCell B cA h a (21, n) = .inl (cA 21, n, .inr (.inl (fun j => hL h a j))) := rfl
theorem am_c22 (B : Nat) (cA : Nat → ClassId) (h : amH) (a n kd : Nat) (hk : 22 ≤ kd ∧ kd ≤ 24) : amCell B cA h a (kd, n) = .inl (cA kd, n, .inr (.inr (.inr (.inr (fun j => (hR h a j).map (B + ·)))))) := by
  unfold amCell
  rw [if_neg (by show ¬ kd < 11; omega), if_neg (by show ¬ kd = 20; omega), if_neg (by show ¬ kd = 21; omega)]
theorem X_iaload (he : amOkE M (pc, .iaload, len, aux, S)) (hs : amStep G M Q (pc, .iaload, len, aux, S) K J ls sk h) (hK : amHK G M Q pc len K) : X G M Q pc ls sk h := by
  obtain ⟨hd, hl⟩ := he
  cases (show len = 1 from hl)
  intro p e R s m args below meth c Z H locs cells slots LS A
  revert hs A
  rcases sk with _ | ⟨i | _ | _ | _ | _, _ | ⟨_ | (_ | a) | _ | _ | a, r⟩⟩ <;> first | exact fun q => q.elim | skip
  · intro hs A
    obtain ⟨n, h0, hin, hs⟩ := (id hs : ∃ _, _)
    have e2 := amWs_at (B := gB G) (cA := gA G) h0
    have k := hK _ _ _ hs _ _ _ _ _ _ _ _ _ _ _ _ _ _ _ (A.to (am_all1 (v := aI (hI h a i.toNat)) (A.rel.2.1 _ _) (am_tl (am_tl A.ok))))
    have oi : amIn i := am_hd A.ok
    have ei := amI_cl hin.1 oi.2
    refine va_iald A.hx A.hb A.k A.rel.1 a 0 e2 (am_ty G 0 (by decide)) (amI_vp oi hin) hd ?_
    rw [ei]
    exact k
  · intro hs A
    obtain ⟨e0, hin, hq⟩ := (id hs : _ ∧ _ ∧ _)
    subst e0
    have k := hK _ _ _ hq _ _ _ _ _ _ _ _ _ _ _ _ _ _ _ (A.to (am_all1 (v := aI (gx G i.toNat).toInt) (amI_in _) (am_tl (am_tl A.ok))))
    have oi : amIn i := am_hd A.ok
    have ei := amI_cl hin.1 oi.2
    obtain ⟨scr, x1, x2, x3, x4, x5⟩ := A.1.2.2.2.1
    have hX : va_X (gb G) (gn G) (gx G) s H := ⟨scr, by rw [A.rel.2.2.1 _ A.1.2.2.2.2.1]; exact x1, State.isArrayOf_alike A.hW.alike x2, x3, x4, x5⟩
    have hlt : (Int32.ofInt i).toNatClampNeg < gn G := by rw [ei]; omega
    obtain ⟨scr, x1, x2, x3, x4, x5⟩ := hX
    refine W.iald (v := .int (gx G i.toNat)) A.hx A.hb x1 x2 x3 (by rw [x4]; exact amI_vp oi hin) (by rw [ei]; exact x5 _ (by omega)) rfl rfl hd ?_
    rw [← amI_of (gx G i.toNat)]
    exact k
theorem X_arraylength (he : amOkE M (pc, .arraylength, len, aux, S)) (hs : amStep G M Q (pc, .arraylength, len, aux, S) K J ls sk h) (hK : amHK G M Q pc len K) : X G M Q pc ls sk h := by
  obtain ⟨hd, hl⟩ := he
  cases (show len = 1 from hl)
  intro p e R s m args below meth c Z H locs cells slots LS A
  revert hs A
  rcases sk with _ | ⟨_ | (_ | a) | _ | _ | a, r⟩ <;> first | exact fun q => q.elim | skip
  · intro hs A
    obtain ⟨kd, n, h0, hkd, hs⟩ := (id hs : ∃ _, _)
    have e2 := amWs_at (B := gB G) (cA := gA G) h0
    have k := hK _ _ _ hs _ _ _ _ _ _ _ _ _ _ _ _ _ _ _ (A.to (am_all1 (v := aI n) (show amIn n from ⟨by omega, by omega⟩) (am_tl A.ok)))
    have ev : Int32.ofNat n = Int32.ofInt n := (Int32.ofInt_eq_ofNat).symm
    obtain ⟨k0, hk1, hk2⟩ : ∃ k0, k0 < 5 ∧ kd = 20 + k0 := ⟨kd - 20, by omega, by omega⟩
    subst hk2
    have ec : ∃ x : vp_A, amCell (gB G) (gA G) h a (20 + k0, n) = .inl (gA G (20 + k0), x) ∧ x.1 = n := by
      match k0, hk1 with
      | 0, _ => exact ⟨_, rfl, rfl⟩
      | 1, _ => exact ⟨_, rfl, rfl⟩
      | 2, _ => exact ⟨_, rfl, rfl⟩
      | 3, _ => exact ⟨_, rfl, rfl⟩
      | 4, _ => exact ⟨_, rfl, rfl⟩
    obtain ⟨x, ex, en⟩ := ec
    rw [ex] at e2
    refine va_alen A.hx A.hb A.k A.rel.1 a k0 e2 (am_ty G k0 hk1) (v := Int32.ofInt n) (by rw [en, ev]) hd ?_
    exact k
  · intro hs A
    obtain ⟨e0, hq⟩ := (id hs : _ ∧ _)
    subst e0
    have hn := A.1.2.2.2.2.2.1
    have k := hK _ _ _ hq _ _ _ _ _ _ _ _ _ _ _ _ _ _ _ (A.to (am_all1 (v := aI (gn G)) (show amIn (gn G) from ⟨by omega, by omega⟩) (am_tl A.ok)))
    obtain ⟨scr, x1, x2, x3, x4, x5⟩ := A.1.2.2.2.1
    refine W.alen (n := Int32.ofInt (gn G)) A.hx A.hb (by rw [A.rel.2.2.1 _ A.1.2.2.2.2.1]; exact x1) (State.isArrayOf_alike A.hW.alike x2) (by rw [x4]; exact (Int32.ofInt_eq_ofNat).symm) rfl rfl hd ?_
    exact k
theorem X_iastore (he : amOkE M (pc, .iastore, len, aux, S)) (hs : amStep G M Q (pc, .iastore, len, aux, S) K J ls sk h) (hK : amHK G M Q pc len K) : X G M Q pc ls sk h := by
  obtain ⟨hd, hl⟩ := he
  cases (show len = 1 from hl)
  intro p e R s m args below meth c Z H locs cells slots LS A
  revert hs A
  rcases sk with _ | ⟨x | _ | _ | _ | _, _ | ⟨i | _ | _ | _ | _, _ | ⟨_ | (_ | a) | _ | _ | _, r⟩⟩⟩ <;> first | exact fun q => q.elim | skip
  intro hs A
  obtain ⟨n, h0, hin, hs⟩ := (id hs : ∃ _, _)
  have oi : amIn i := am_hd (am_tl A.ok)
  have ei := amI_cl hin.1 oi.2
  refine W.iast A.hx A.hb (A.rel.1 a _ (amWs_at h0)) ((A.k.2 0 _ (am_ty G 0 (by decide))).1 n (fun j => .int (Int32.ofInt (hI h a j)))) (fun q => by cases q) (by show ¬ (_ ∨ (arrV _ _ _).slots.size ≤ _); rw [arrV_size]; exact amI_vp oi hin) rfl rfl hd (fun H1 e1 z oq => ?_)
  refine hK _ _ _ hs _ _ _ _ _ _ _ _ _ _ _ _ _ _ _ (A.world (amRel_set A.rel h0 rfl rfl (amIn_u2 A.rel.2.1 (am_hd A.ok)) (fun j hj s1 => amCell_pI hj s1) ?_ z oq) (Nat.le_of_eq z.symm) (am_locs A.2.2.2.2.2.1) A.2.2.2.2.2.2.1 A.2.2.2.2.2.2.2.1 (am_tl (am_tl (am_tl A.ok))))
  show H1[gB G + a]? = some (vp_cell _ _)
  rw [e1, ei]
  show some ((vp_cell (gA G 20) (n, .inl _)).setSlot _ _) = some (vp_cell (gA G 20) (n, .inl _))
  rw [vp_cell_i, vp_cell_i, arrV_store]
  congr 2
  exact am_upd (by show Value.int (Int32.ofInt (u2 h.1 a i.toNat x a i.toNat)) = _; rw [u2_same]) (fun j hj => by show Value.int (Int32.ofInt (u2 h.1 a i.toNat x a j)) = _; rw [u2_oth hj])
theorem am_AK {kd : Nat} (hk : 22 ≤ kd ∧ kd ≤ 24) : ∃ (C : String) (T : u_T) (N : Nat), vwCl[amAC kd]? = some (C, T, N) ∧ amAK kd = .object C := by
  obtain ⟨k0, hk1, rfl⟩ : ∃ k0, k0 < 3 ∧ kd = 22 + k0 := ⟨kd - 22, by omega, by omega⟩
  match k0, hk1 with
  | 0, _ => exact ⟨_, _, _, rfl, rfl⟩
  | 1, _ => exact ⟨_, _, _, rfl, rfl⟩
  | 2, _ => exact ⟨_, _, _, rfl, rfl⟩
theorem X_aaload (he : amOkE M (pc, .aaload, len, aux, S)) (hs : amStep G M Q (pc, .aaload, len, aux, S) K J ls sk h) (hK : amHK G M Q pc len K) : X G M Q pc ls sk h := by
  obtain ⟨hd, hl⟩ := he
  cases (show len = 1 from hl)
  intro p e R s m args below meth c Z H locs cells slots LS A
  revert hs A
  rcases sk with _ | ⟨i | _ | _ | _ | _, _ | ⟨_ | (_ | a) | _ | _ | _, r⟩⟩ <;> first | exact fun q => q.elim | skip
  intro hs A
  obtain ⟨kd, n, h0, hkd, hin, b, hb, hs⟩ := (id hs : ∃ _, _)
  have k := hK _ _ _ hs _ _ _ _ _ _ _ _ _ _ _ _ _ _ _ (A.to (am_all1 (v := aR (some b)) trivial (am_tl (am_tl A.ok))))
  have oi : amIn i := am_hd A.ok
  have ei := amI_cl hin.1 oi.2
  have e2 := amWs_at (B := gB G) (cA := gA G) h0
  rw [am_c22 _ _ _ _ _ _ hkd] at e2
  obtain ⟨C, T, N, -, hC⟩ := am_AK hkd
  have ht := am_ty G (kd - 20) (by omega)
  rw [show 20 + (kd - 20) = kd by omega, hC] at ht
  refine va_aldq A.hx A.hb A.k A.rel.1 a (kd - 20) e2 ht (amI_vp oi hin) hd ?_
  rw [ei]
  have e3 : va_rf ((hR h a i.toNat).map (gB G + ·)) = amRv (gB G) (aR (some b)) := by rw [hb]; rfl
  rw [e3]
  exact k
theorem X_aastore (he : amOkE M (pc, .aastore, len, aux, S)) (hs : amStep G M Q (pc, .aastore, len, aux, S) K J ls sk h) (hK : amHK G M Q pc len K) : X G M Q pc ls sk h := by
  obtain ⟨hd, hl⟩ := he
  cases (show len = 1 from hl)
  intro p e R s m args below meth c Z H locs cells slots LS A
  revert hs A
  rcases sk with _ | ⟨_ | (_ | v) | _ | _ | _, _ | ⟨i | _ | _ | _ | _, _ | ⟨_ | (_ | a) | _ | _ | _, r⟩⟩⟩ <;> first | exact fun q => q.elim | skip
  intro hs A
  obtain ⟨kd, n, h0, hkd, hv, hin, hs⟩ := (id hs : ∃ _, _)
  have oi : amIn i := am_hd (am_tl A.ok)
  have ei := amI_cl hin.1 oi.2
  have e2 := amWs_at (B := gB G) (cA := gA G) h0
  rw [am_c22 _ _ _ _ _ _ hkd] at e2
  obtain ⟨C, T, N, hc, hC⟩ := am_AK hkd
  obtain ⟨hci, -⟩ := amCls _ C T N hc
  have ev := amWs_at (B := gB G) (cA := gA G) hv
  rw [show amCell (gB G) (gA G) h v (amAC kd, 0) = .inr (amAC kd, amFs (gB G) h (amAC kd) v) from if_pos hci] at ev
  have ht := am_ty G (kd - 20) (by omega)
  rw [show 20 + (kd - 20) = kd by omega, hC] at ht
  obtain ⟨r', hr', cellV, g1, g2, g3, -⟩ := A.rel.1 v _ ev
  have hcls := (A.k.1 _ _ hc).2
  obtain ⟨kA, comp, k1, k2, k3, -⟩ := (A.k.2 (kd - 20) _ ht).2
  have hcomp : comp = (gD G).1 (amAC kd) := Option.some.inj (k3.symm.trans hcls.1)
  subst hcomp
  obtain ⟨kC, hkC, -⟩ := id hcls.2
  have hlt : (Int32.ofInt i).toNatClampNeg < n := by rw [ei]; omega
  refine W.aast A.hx A.hb (A.rel.1 a _ e2) (fun q h => by cases h) (fun h => by cases h) k1 k2 rfl hkC ⟨fun q => (amI_vp oi hin) (Or.inl q), by show _ < (arrV _ _ _).slots.size; rw [arrV_size]; exact hlt⟩ g1 (fun q h => by rw [g3] at h; cases h) (by rw [g2]; exact hkC) (by rw [g2]; exact va_assign hcls) rfl rfl hd (fun H1 e1 z oq => ?_)
  refine hK _ _ _ hs _ _ _ _ _ _ _ _ _ _ _ _ _ _ _ (A.world (amRel_set A.rel h0 rfl rfl A.rel.2.1 (fun j hj s1 => amCell_pR hj s1) ?_ z oq) (Nat.le_of_eq z.symm) (am_locs A.2.2.2.2.2.1) A.2.2.2.2.2.2.1 A.2.2.2.2.2.2.2.1 (am_tl (am_tl (am_tl A.ok))))
  rw [am_c22 _ _ _ _ _ _ hkd]
  show H1[gB G + a]? = some (vp_cell _ _)
  rw [e1, ei]
  show some ((vp_cell (gA G kd) (n, .inr (.inr (.inr (.inr _))))).setSlot _ _) = some (vp_cell (gA G kd) (n, .inr (.inr (.inr (.inr _)))))
  rw [vp_cell_q, vp_cell_q, arrV_store]
  congr 2
  exact am_upd (by show va_rf ((u2 h.2.1 a i.toNat (some v) a i.toNat).map _) = _; rw [u2_same]; rfl) (fun j hj => by show va_rf ((u2 h.2.1 a i.toNat (some v) a j).map _) = _; rw [u2_oth hj])
end HeapRows
end
section
/-! ===== the rows of the abstract machine: what is new, constants, the library's own methods, switches, ends ===== -/
theorem u1_row {α : Type} {f : Nat → Nat → α} {a : Nat} {v : α} {j : Nat} (h : j ≠ a) : ∀ y, u1 f a v j y = f j y := fun y => by simp [u1, h]
theorem u1_same {α : Type} {f : Nat → Nat → α} {a : Nat} {v : α} : ∀ y, u1 f a v a y = v := fun y => by simp [u1]
theorem am_w8 {B : Nat} {r : List amV} (h : amW8 r) : ((r.map (amRv B)).map fun v => v.category).sum ≤ 8 := by
  rw [List.map_map]
  have e : ((fun v => Value.category v) ∘ amRv B) = amCat := funext (fun v => amCat_r B v)
  rw [e]; exact h
section HeapRows
variable {G : amG} {M : amM} {Q : amR → amH → Prop} {p : Program} {e : Env} {R : Room} {s : State} {m : MethodId} {args : Array Value} {below : List Frame} {meth : Method} {c : Code} {Z : State → Prop} {H : Heap} {locs : List Loc} {cells slots : Nat} {LS : Array Slot} {ls : List (Option amV)} {sk : List amV} {h : amH}
variable {K : amK1} {J : amJ1} {pc len : Nat} {aux : Nat × Nat × Nat} {S : Option amS}
theorem amRel_new {s0 : Nat × Nat} {t : Nat} {H' : Heap} (hr : amRel G h H) (hx : hX h = 0) (he : va_at (gD G) vwCl (gB G + (hS h).length, amCell (gB G) (gA G) (hNew h s0 t) (hS h).length s0) H') (hz : H'.size = H.size + 1) (oq : ∀ q, q < H.size → H'[q]? = H[q]?) : amRel G (hNew h s0 t) H' := by
  have hsz := hr.2.2.2.2 hx
  have hsl : (hS (hNew h s0 t)).length = (hS h).length + 1 := by
    show ((hS h) ++ [s0]).length = _
    rw [List.length_append]; rfl
  refine ⟨fun k q hq => ?_, fun a k => ?_, fun q hq => ?_, ?_, fun _ => ?_⟩
  · obtain ⟨s1, h1, rfl⟩ := amWs_inv hq
    have h1 : ((hS h) ++ [s0])[k]? = some s1 := h1
    by_cases hk : k < (hS h).length
    · rw [List.getElem?_append_left hk] at h1
      have hne : k ≠ (hS h).length := by omega
      rw [amCell_eq (h := h) (h' := hNew h s0 t) (u1_row hne) (u1_row hne) (u1_row hne)]
      exact (hr.1 k _ (amWs_at h1)).kept (oq _ (by show gB G + k < H.size; omega))
    · rw [List.getElem?_append_right (by omega)] at h1
      have hz : k - (hS h).length < 1 := (List.getElem?_eq_some_iff.mp h1).1
      have hk0 : k = (hS h).length := by omega
      subst hk0
      rw [Nat.sub_self] at h1
      cases h1
      exact he
  · show amIn (u1 h.1 _ 0 a k)
    unfold u1
    split
    · exact amIn_0
    · exact hr.2.1 a k
  · rw [oq q (by have : q < gB G := hq; omega)]
    exact hr.2.2.1 q hq
  · rw [hz, hsz, hsl]; omega
  · rw [hz, hsz, hsl]; omega
theorem amA.new {s0 : Nat × Nat} {t : Nat} {H' : Heap} {r : List amV} (A : amA G M Q p e R s m args below meth c Z H locs cells slots LS ls sk h) (hr : amRel G (hNew h s0 t) H') (hz : H'.size = H.size + 1) (h1 : 1 ≤ hC h) (h2 : t ≤ hT h) (hs : ∀ v ∈ r, amOk v) : amA G M Q p e R s m args below meth c Z H' locs (cells + 1) (slots + t) LS ls r (hNew h s0 t) := by
  have e1 : cells + hC h = R.cells := A.2.2.2.2.2.2.1
  have e2 : slots + hT h = R.slots := A.2.2.2.2.2.2.2.1
  exact A.world hr (by omega) A.2.2.2.2.2.1 (by show cells + 1 + (hC h - 1) = _; omega) (by show slots + t + (hT h - t) = _; omega) hs
theorem am_newFs {ci N : Nat} {C : String} {T : u_T} (hc : amClsOk ci C T N) (B t0 : Nat) (h : amH) (s0 : Nat × Nat) : ∀ j, j < N → defaultValue (amFT ci j) = vp_V (amFs B (hNew h s0 t0) ci (hS h).length) j := by
  intro j hj
  obtain ⟨-, -, -, -, hN, hkd⟩ := hc
  have hj2 : j < (amF ci).length := hN ▸ hj
  obtain ⟨t, ht⟩ : ∃ t, (amF ci)[j]? = some t := ⟨_, List.getElem?_eq_getElem hj2⟩
  have hkd1 := hkd j hj
  rw [List.getD_eq_getElem?_getD, ht] at hkd1
  have hkd1 : amKd t (amFT ci j) := hkd1
  have e1 : vp_V (amFs B (hNew h s0 t0) ci (hS h).length) j = amVal B (hNew h s0 t0) t (hS h).length j := by
    unfold vp_V
    rw [List.getD_eq_getElem?_getD, amFs_at ht]; rfl
  rw [e1]
  rcases hkd1 with ⟨rfl, h2⟩ | ⟨rfl, h2⟩ | ⟨rfl, h2⟩
  · rw [h2]; show _ = Value.int (Int32.ofInt (u1 h.1 _ 0 _ j)); rw [u1_same]; rfl
  · show _ = va_rf ((u1 h.2.1 _ none _ j).map _); rw [u1_same]
    revert h2
    cases amFT ci j <;> first | (intro h2; cases h2; done) | (intro _; rfl)
  · rw [h2]; show _ = Value.long (u1 h.2.2.1 _ 0 _ j); rw [u1_same]; rfl
theorem X_newO {idx ci N a3 : Nat} (hci : ci < 100) (he : amOkE M (pc, .new idx, len, (ci, N, a3), S)) (hs : amStep G M Q (pc, .new idx, len, (ci, N, a3), S) K J ls sk h) (hK : amHK G M Q pc len K) : X G M Q pc ls sk h := by
  obtain ⟨hd, hl⟩ := he
  have hl : len = 3 ∧ ∃ (C : String) (T : u_T), vwCl[ci]? = some (C, T, N) ∧ Cond.classLink M.2.1 idx C ∈ lw_tbl ∧ Cond.instantiable C N ∈ lw_tbl ∧ Cond.initialized C ∈ lw_tbl := by
    have q : if ci < 100 then _ else _ := hl
    rw [if_pos hci] at q; exact q
  obtain ⟨rfl, C, T, hc, w1, w2, w3⟩ := hl
  have hs : (1 ≤ hC h ∧ N ≤ hT h ∧ hX h = 0) ∧ K ls (aR (some (hS h).length) :: sk) (hNew h (ci, 0) N) := by
    have q : if ci < 100 then _ else _ := hs
    rw [if_pos hci] at q; exact q
  obtain ⟨⟨b1, b2, b3⟩, hs⟩ := hs
  intro p e R s m args below meth c Z H locs cells slots LS A
  have hcl := amCls ci C T N hc
  obtain ⟨hci2, hu, hty, hnm, hN, hkd⟩ := id hcl
  have e1 : cells + hC h = R.cells := A.2.2.2.2.2.2.1
  have e2 : slots + hT h = R.slots := A.2.2.2.2.2.2.2.1
  have hsz := A.rel.2.2.2.2 b3
  have hu' : ∀ w ∈ u_ws C T N, w.before args s = true := fun w hw' => A.w (hu w hw') (by
    obtain ⟨j, -, rfl⟩ := List.mem_map.mp hw'
    unfold u_lay
    split <;> rfl) args
  have hKn := A.k.1 ci _ hc
  refine W.newcK A.hx A.hb A.hown (A.w w1 rfl args) (A.w w2 rfl args) (A.w w3 rfl args) rfl hd (by omega) (by omega) hKn.2.1 (h := gB G + (hS h).length) (by omega) (fun H1 kC hkC e3 z1 o1 => ?_)
  have z2 : H1.size = H.size + 1 := by omega
  have o2 : ∀ q, q < H.size → H1[q]? = H[q]? := fun q hq => o1 q (by omega)
  have hat : va_at (gD G) vwCl (gB G + (hS h).length, amCell (gB G) (gA G) (hNew h (ci, 0) N) (hS h).length (ci, 0)) H1 := by
    rw [show amCell (gB G) (gA G) (hNew h (ci, 0) N) (hS h).length (ci, 0) = .inr (ci, amFs (gB G) (hNew h (ci, 0) N) ci (hS h).length) from if_pos hci2]
    exact ⟨_, hc, (u_born (amFT ci) hu' (fun _ q => q) hKn hkC e3 hty).to (am_newFs hcl _ _ _ _)⟩
  exact hK _ _ _ hs _ _ _ _ _ _ _ _ _ _ _ _ _ _ _ (A.new (amRel_new A.rel b3 hat z2 o2) z2 b1 b2 (am_all1 (v := aR (some (hS h).length)) trivial A.ok))
theorem X_newarray {ty : ArrayType} {kd a2 a3 : Nat} (he : amOkE M (pc, .newarray ty, len, (kd, a2, a3), S)) (hs : amStep G M Q (pc, .newarray ty, len, (kd, a2, a3), S) K J ls sk h) (hK : amHK G M Q pc len K) : X G M Q pc ls sk h := by
  obtain ⟨hd, hl, hkd, hw⟩ := he
  cases (show len = 2 from hl)
  dsimp only at hkd hw
  intro p e R s m args below meth c Z H locs cells slots LS A
  revert hs A
  rcases sk with _ | ⟨n | _ | _ | _ | _, r⟩ <;> first | exact fun q => q.elim | skip
  intro hs A
  obtain ⟨⟨n0, n1, b1, b2, b3⟩, hs⟩ := (id hs : _ ∧ _)
  have e1 : cells + hC h = R.cells := A.2.2.2.2.2.2.1
  have e2 : slots + hT h = R.slots := A.2.2.2.2.2.2.2.1
  have hsz := A.rel.2.2.2.2 b3
  have oi : amIn n := am_hd A.ok
  have en := amI_cl n0 oi.2
  have hn0 : ¬ Int32.ofInt n < 0 := fun q => by
    rw [← amI_0, amI_lt oi amIn_0] at q; omega
  have hby : n.toNat * componentBytes (newarray.typeOf ty) ≤ 536870912 := by
    have : componentBytes (newarray.typeOf ty) ≤ 8 := by cases ty <;> decide
    calc _ ≤ n.toNat * 8 := Nat.mul_le_mul_left _ this
      _ ≤ 536870912 := by omega
  refine va_newaK A.hx A.hb (A.w hw (by cases ty <;> rfl) args) rfl hd rfl hn0 en hby (by omega) (by omega) (h := gB G + (hS h).length) (by omega) (fun H1 cA e3 z1 o1 hAr hNm => ?_)
  have z2 : H1.size = H.size + 1 := by omega
  have o2 : ∀ q, q < H.size → H1[q]? = H[q]? := fun q hq => o1 q (by omega)
  have hat : va_at (gD G) vwCl (gB G + (hS h).length, amCell (gB G) (gA G) (hNew h (kd, n.toNat) n.toNat) (hS h).length (kd, n.toNat)) H1 := by
    obtain ⟨rfl, ht⟩ := hkd
    · rw [ht] at e3 hNm
      have hc2 := ((A.k.2 0 _ (am_ty G 0 (by decide))).2)
      have hc3 : cA = gA G 20 := Option.some.inj (hNm.symm.trans hc2)
      subst hc3
      show H1[_]? = some (vp_cell (gA G 20) (n.toNat, .inl _))
      rw [e3, vp_cell_i]
      congr 2
      funext j
      show _ = Value.int (Int32.ofInt (u1 h.1 _ 0 _ j))
      rw [u1_same]; rfl
  exact hK _ _ _ hs _ _ _ _ _ _ _ _ _ _ _ _ _ _ _ (A.new (amRel_new A.rel b3 hat z2 o2) z2 b1 b2 (am_all1 (v := aR (some (hS h).length)) trivial (am_tl A.ok)))
theorem X_anewarray {idx kd a2 a3 : Nat} (he : amOkE M (pc, .anewarray idx, len, (kd, a2, a3), S)) (hs : amStep G M Q (pc, .anewarray idx, len, (kd, a2, a3), S) K J ls sk h) (hK : amHK G M Q pc len K) : X G M Q pc ls sk h := by
  obtain ⟨hd, hl, hkd, C, hCC, w1, w2⟩ := he
  cases (show len = 3 from hl)
  dsimp only at hkd hCC w1 w2
  intro p e R s m args below meth c Z H locs cells slots LS A
  revert hs A
  rcases sk with _ | ⟨n | _ | _ | _ | _, r⟩ <;> first | exact fun q => q.elim | skip
  intro hs A
  obtain ⟨⟨n0, n1, b1, b2, b3⟩, hs⟩ := (id hs : _ ∧ _)
  have e1 : cells + hC h = R.cells := A.2.2.2.2.2.2.1
  have e2 : slots + hT h = R.slots := A.2.2.2.2.2.2.2.1
  have hsz := A.rel.2.2.2.2 b3
  have oi : amIn n := am_hd A.ok
  have en := amI_cl n0 oi.2
  have hn0 : ¬ Int32.ofInt n < 0 := fun q => by
    rw [← amI_0, amI_lt oi amIn_0] at q; omega
  refine W.anew A.hx A.hb A.hown (A.w w1 rfl args) (va_AO.use (va_AO.moved A.hW.alike (va_AO.of (A.1.2.1 _ w2)))) rfl hd rfl hn0 (by rw [en]; omega) (by omega) (by rw [en]; omega) (fun cA kA comp f1 f2 f3 f4 => ?_)
  rw [en]
  have ha : H.size = gB G + (hS h).length := by omega
  generalize hH1 : H.push ({ cls := cA, slots := Array.replicate n.toNat .null, vm := .none } : Cell) = H1
  have z2 : H1.size = H.size + 1 := by rw [← hH1, Array.size_push]
  have e3 : H1[gB G + (hS h).length]? = some (arrV cA n.toNat (fun _ => .null)) := by rw [← hH1, ← ha, Array.getElem?_push_size, ← arrV_new]
  have o2 : ∀ q, q < H.size → H1[q]? = H[q]? := fun q hq => by
    rw [← hH1, Array.getElem?_push, if_neg (Nat.ne_of_lt hq)]
  have ht := am_ty G (kd - 20) (by omega)
  rw [show 20 + (kd - 20) = kd by omega, hCC] at ht
  obtain ⟨kA2, comp2, k1, k2, k3, k4⟩ := (A.k.2 (kd - 20) _ ht).2
  have hc3 : cA = gA G kd := Option.some.inj (f1.symm.trans k4)
  subst hc3
  have hat : va_at (gD G) vwCl (gB G + (hS h).length, amCell (gB G) (gA G) (hNew h (kd, n.toNat) n.toNat) (hS h).length (kd, n.toNat)) H1 := by
    rw [am_c22 _ _ _ _ _ _ hkd]
    show H1[_]? = some (vp_cell (gA G kd) (n.toNat, .inr (.inr (.inr (.inr _)))))
    rw [e3, vp_cell_q]
    congr 2
    funext j
    show _ = va_rf ((u1 h.2.1 _ none _ j).map _)
    rw [u1_same]; rfl
  rw [ha]
  exact hK _ _ _ hs _ _ _ _ _ _ _ _ _ _ _ _ _ _ _ (A.new (amRel_new A.rel b3 hat z2 o2) z2 b1 b2 (am_all1 (v := aR (some (hS h).length)) trivial (am_tl A.ok)))
theorem X_ldc {idx v a2 a3 : Nat} (he : amOkE M (pc, .ldc idx, len, (v, a2, a3), S)) (hs : amStep G M Q (pc, .ldc idx, len, (v, a2, a3), S) K J ls sk h) (hK : amHK G M Q pc len K) : X G M Q pc ls sk h := by
  obtain ⟨hd, hl, w, hw, hv, hi⟩ := he
  cases (show len = 2 from hl)
  intro p e R s m args below meth c Z H locs cells slots LS A
  have hs : K ls (aI (v : Nat) :: sk) h := hs
  refine lv_ldc A.hx A.hb A.hown (A.w hw rfl args) hd ?_
  rw [hv]
  exact hK _ _ _ hs _ _ _ _ _ _ _ _ _ _ _ _ _ _ _ (A.to (am_all1 (v := aI (v : Nat)) hi A.ok))
theorem X_ldc2 {idx t v a3 : Nat} (he : amOkE M (pc, .ldc2_w idx, len, (t, v, a3), S)) (hs : amStep G M Q (pc, .ldc2_w idx, len, (t, v, a3), S) K J ls sk h) (hK : amHK G M Q pc len K) : X G M Q pc ls sk h := by
  obtain ⟨hd, hl, hw⟩ := he
  cases (show len = 3 from hl)
  intro p e R s m args below meth c Z H locs cells slots LS A
  match t, hw, hs with
  | 0, hw, hs => exact lv_ldc2 A.hx A.hb A.hown (A.w hw rfl args) hd (hK _ _ _ hs _ _ _ _ _ _ _ _ _ _ _ _ _ _ _ (A.to (am_all1 (v := aL (Int64.ofNat v)) trivial A.ok)))
  | t + 1, hw, hs => exact lv_ldc2d A.hx A.hb A.hown (A.w hw rfl args) hd (hK _ _ _ hs _ _ _ _ _ _ _ _ _ _ _ _ _ _ _ (A.to (am_all1 (v := aD (UInt64.ofNat v)) trivial A.ok)))
theorem amA.ml (A : amA G M Q p e R s m args below meth c Z H locs cells slots LS ls sk h) : c.maxLocals = LS.size := A.2.1.2.2.1.trans A.hl.1.symm
theorem amA.cR (A : amA G M Q p e R s m args below meth c Z H locs cells slots LS ls sk h) : cells ≤ R.cells ∧ slots ≤ R.slots := ⟨by have := A.2.2.2.2.2.2.1; omega, by have := A.2.2.2.2.2.2.2.1; omega⟩
theorem amA.fR (A : amA G M Q p e R s m args below meth c Z H locs cells slots LS ls sk h) : sf M.1 ≤ R.frames ∧ sl M.1 ≤ R.locals := ⟨A.2.1.2.2.2.2.2.2.2.2.2.1, A.2.1.2.2.2.2.2.2.2.2.2.2.1⟩
theorem X_init0 {idx : Nat} (he : amOkE M (pc, .invokespecial idx, len, aux, none)) (hs : amStep G M Q (pc, .invokespecial idx, len, aux, none) K J ls sk h) (hK : amHK G M Q pc len K) : X G M Q pc ls sk h := by
  obtain ⟨hd, hl, w1, w2, w3, b1, b2⟩ := he
  cases (show len = 3 from hl)
  intro p e R s m args below meth c Z H locs cells slots LS A
  have hs : amStR (fun _ r => amW8 r ∧ K ls r h) sk := hs
  have hf := A.fR
  revert hs A
  rcases sk with _ | ⟨_ | (_ | a) | _ | _ | a, r⟩ <;> first | exact fun _ q => q.elim | skip
  · intro A hs
    have hw := am_w8 (B := gB G) hs.1
    refine W.objInit A.hx A.hb A.hown (A.w w1 rfl args) (A.w w2 rfl args) (A.w w3 rfl args) (g := F0 m pc LS ((aR (some a) :: r).map (amRv (gB G)))) rfl A.ml.symm rfl hd (by omega) ?_ ?_
    · show 2 * 0 + _ + 12 ≤ _
      omega
    · exact hK _ _ _ hs.2 _ _ _ _ _ _ _ _ _ _ _ _ _ _ _ (A.to (am_tl A.ok))
  · intro A hs
    have hw := am_w8 (B := gB G) hs.1
    refine W.objInit A.hx A.hb A.hown (A.w w1 rfl args) (A.w w2 rfl args) (A.w w3 rfl args) (g := F0 m pc LS ((aO a :: r).map (amRv (gB G)))) rfl A.ml.symm rfl hd (by omega) ?_ ?_
    · show 2 * 0 + _ + 12 ≤ _
      omega
    · exact hK _ _ _ hs.2 _ _ _ _ _ _ _ _ _ _ _ _ _ _ _ (A.to (am_tl A.ok))
theorem X_abs {idx a1 a3 : Nat} (he : amOkE M (pc, .invokestatic idx, len, (a1, 10, a3), none)) (hs : amStep G M Q (pc, .invokestatic idx, len, (a1, 10, a3), none) K J ls sk h) (hK : amHK G M Q pc len K) : X G M Q pc ls sk h := by
  obtain ⟨hd, hl, ⟨b1, b2⟩, w1, w2, w3, w4⟩ := he
  cases (show len = 3 from hl)
  intro p e R s m args below meth c Z H locs cells slots LS A
  have hs : am1I (fun x r => (amIn (-x) ∧ amW8 r) ∧ K ls (aI (if x < 0 then -x else x) :: r) h) sk := hs
  have hf := A.fR
  revert hs A
  rcases sk with _ | ⟨x | _ | _ | _ | _, r⟩ <;> first | exact fun _ q => q.elim | skip
  intro A hs
  have hw := am_w8 (B := gB G) hs.1.2
  have ox : amIn x := am_hd A.ok
  refine va_mabs A.hx A.hb A.ml A.hown (A.w w1 rfl args) (A.w w2 rfl args) (A.w w3 rfl args) (A.w w4 rfl args) (by omega) (by omega) A.cR.1 A.cR.2 hd ?_
  have k := hK _ _ _ hs.2 _ _ _ _ _ _ _ _ _ _ _ _ _ _ _ (A.to (am_all1 (v := aI (if x < 0 then -x else x)) (by
    show amIn _
    split
    · exact hs.1.1
    · exact ox) (am_tl A.ok)))
  have e1 : (if 0 ≤ Int32.ofInt x then Int32.ofInt x else 0 - Int32.ofInt x) = Int32.ofInt (if x < 0 then -x else x) := by
    have e2 : 0 ≤ Int32.ofInt x ↔ 0 ≤ x := by rw [← amI_0, amI_le amIn_0 ox]
    by_cases hx : x < 0
    · rw [if_pos hx, if_neg (fun q => by have := e2.mp q; omega), ← amI_0, ← Int32.ofInt_sub]
      congr 1; omega
    · rw [if_neg hx, if_pos (e2.mpr (by omega))]
  rw [e1]; exact k
theorem X_max {idx a1 a3 : Nat} (he : amOkE M (pc, .invokestatic idx, len, (a1, 11, a3), none)) (hs : amStep G M Q (pc, .invokestatic idx, len, (a1, 11, a3), none) K J ls sk h) (hK : amHK G M Q pc len K) : X G M Q pc ls sk h := by
  obtain ⟨hd, hl, ⟨b1, b2⟩, w1, w2, w3, w4⟩ := he
  cases (show len = 3 from hl)
  intro p e R s m args below meth c Z H locs cells slots LS A
  have hs : am2I (fun x y r => amW8 r ∧ K ls (aI (if x < y then y else x) :: r) h) sk := hs
  have hf := A.fR
  revert hs A
  rcases sk with _ | ⟨y | _ | _ | _ | _, _ | ⟨x | _ | _ | _ | _, r⟩⟩ <;> first | exact fun _ q => q.elim | skip
  intro A hs
  have hw := am_w8 (B := gB G) hs.1
  have ox : amIn x := am_hd (am_tl A.ok)
  have oy : amIn y := am_hd A.ok
  refine va_mmax A.hx A.hb A.ml A.hown (A.w w1 rfl args) (A.w w2 rfl args) (A.w w3 rfl args) (A.w w4 rfl args) (by omega) (by omega) A.cR.1 A.cR.2 hd ?_
  have k := hK _ _ _ hs.2 _ _ _ _ _ _ _ _ _ _ _ _ _ _ _ (A.to (am_all1 (v := aI (if x < y then y else x)) (by
    show amIn _
    split
    · exact oy
    · exact ox) (am_tl (am_tl A.ok))))
  have e1 : (if Int32.ofInt x < Int32.ofInt y then Int32.ofInt y else Int32.ofInt x) = Int32.ofInt (if x < y then y else x) := by
    have e2 := amI_lt ox oy
    by_cases hx : x < y
    · rw [if_pos hx, if_pos (e2.mpr hx)]
    · rw [if_neg hx, if_neg (fun q => hx (e2.mp q))]
  rw [e1]; exact k
theorem X_min {idx a1 a3 : Nat} (he : amOkE M (pc, .invokestatic idx, len, (a1, 12, a3), none)) (hs : amStep G M Q (pc, .invokestatic idx, len, (a1, 12, a3), none) K J ls sk h) (hK : amHK G M Q pc len K) : X G M Q pc ls sk h := by
  obtain ⟨hd, hl, ⟨b1, b2⟩, w1, w2, w3, w4⟩ := he
  cases (show len = 3 from hl)
  intro p e R s m args below meth c Z H locs cells slots LS A
  have hs : am2I (fun x y r => amW8 r ∧ K ls (aI (if y < x then y else x) :: r) h) sk := hs
  have hf := A.fR
  revert hs A
  rcases sk with _ | ⟨y | _ | _ | _ | _, _ | ⟨x | _ | _ | _ | _, r⟩⟩ <;> first | exact fun _ q => q.elim | skip
  intro A hs
  have hw := am_w8 (B := gB G) hs.1
  have ox : amIn x := am_hd (am_tl A.ok)
  have oy : amIn y := am_hd A.ok
  refine va_mmin A.hx A.hb A.ml A.hown (A.w w1 rfl args) (A.w w2 rfl args) (A.w w3 rfl args) (A.w w4 rfl args) (by omega) (by omega) A.cR.1 A.cR.2 hd ?_
  have k := hK _ _ _ hs.2 _ _ _ _ _ _ _ _ _ _ _ _ _ _ _ (A.to (am_all1 (v := aI (if y < x then y else x)) (by
    show amIn _
    split
    · exact oy
    · exact ox) (am_tl (am_tl A.ok))))
  have e1 : (if Int32.ofInt y < Int32.ofInt x then Int32.ofInt y else Int32.ofInt x) = Int32.ofInt (if y < x then y else x) := by
    have e2 := amI_lt oy ox
    by_cases hx : y < x
    · rw [if_pos hx, if_pos (e2.mpr hx)]
    · rw [if_neg hx, if_neg (fun q => hx (e2.mp q))]
  first | (rw [e1]; exact k) | (have e3 : (if Int32.ofInt x > Int32.ofInt y then Int32.ofInt y else Int32.ofInt x) = Int32.ofInt (if y < x then y else x) := e1
                                rw [e3]; exact k)
theorem X_raw {idx a1 a3 : Nat} (he : amOkE M (pc, .invokestatic idx, len, (a1, 14, a3), none)) (hs : amStep G M Q (pc, .invokestatic idx, len, (a1, 14, a3), none) K J ls sk h) (hK : amHK G M Q pc len K) : X G M Q pc ls sk h := by
  obtain ⟨hd, hl, ⟨b1, b2⟩, w1, w2, w3, w4⟩ := he
  cases (show len = 3 from hl)
  intro p e R s m args below meth c Z H locs cells slots LS A
  have hf := A.fR
  revert hs A
  rcases sk with _ | ⟨_ | _ | _ | x | _, r⟩ <;> first | exact fun q => q.elim | skip
  intro hs A
  have hs : amW8 r ∧ K ls (aL x.toInt64 :: r) h := hs
  have hw := am_w8 (B := gB G) hs.1
  exact vn_d2l A.hx A.hb A.ml A.hown (A.w w1 rfl args) (A.w w2 rfl args) (A.w w3 rfl args) (A.w w4 rfl args) (by omega) (by omega) hd (hK _ _ _ hs.2 _ _ _ _ _ _ _ _ _ _ _ _ _ _ _ (A.to (am_all1 (v := aL x.toInt64) trivial (am_tl A.ok))))
theorem amSw_at {J1 : Nat → Prop} {x : Int} : ∀ (l : List Int) (lo : Int) (k : Nat) (off : Int), amSw pc J1 x lo l → l[k]? = some off → x = lo + k → J1 (amJ pc off) := by
  intro l
  induction l with
  | nil => intro lo k off _ h; cases h
  | cons a l ih =>
    intro lo k off hs hk hx
    obtain ⟨h1, h2⟩ := hs
    cases k with
    | zero => cases hk; exact h1 (by omega)
    | succ k => exact ih (lo + 1) k off h2 (by simpa using hk) (by omega)
theorem X_switch {dflt lo hi : Int} {offs : Array Int} (he : amOkE M (pc, .tableswitch dflt lo hi offs, len, aux, S)) (hs : amStep G M Q (pc, .tableswitch dflt lo hi offs, len, aux, S) K J ls sk h) (hJ : amHJ G M Q J) : X G M Q pc ls sk h := by
  obtain ⟨hd, ⟨ho, hn⟩, hoo⟩ := he
  dsimp only at ho hn hoo
  intro p e R s m args below meth c Z H locs cells slots LS A
  revert hs A
  rcases sk with _ | ⟨x | _ | _ | _ | _, r⟩ <;> first | exact fun q => q.elim | skip
  intro hs A
  obtain ⟨h1, h2⟩ := (id hs : _ ∧ _)
  have ox : amIn x := am_hd A.ok
  have e1 := amI_t ox
  by_cases hx : x < lo ∨ hi < x
  · exact lv_tableOut A.hx A.hb hd (by rw [e1]; exact hx) (Int.toNat_of_nonneg ho).symm (hJ _ _ _ _ (h1 hx) _ _ _ _ _ _ _ _ _ _ _ _ _ _ _ (A.to (am_tl A.ok)))
  · have hlt : (x - lo).toNat < offs.size := by omega
    have hg : offs[(x - lo).toNat]? = some offs[(x - lo).toNat] := Array.getElem?_eq_getElem hlt
    have hm : offs[(x - lo).toNat] ∈ offs.toList := Array.getElem_mem_toList hlt
    have h3 := amSw_at offs.toList lo (x - lo).toNat _ h2 (by rw [Array.getElem?_toList]; exact hg) (by omega)
    exact lv_tableIn A.hx A.hb hd (by rw [e1]; omega) (by rw [e1]; omega) (by rw [e1]; exact hg) (Int.toNat_of_nonneg (hoo _ hm)).symm (hJ _ _ _ _ h3 _ _ _ _ _ _ _ _ _ _ _ _ _ _ _ (A.to (am_tl A.ok)))
end HeapRows
end
section
/-! ===== the rows of the abstract machine: ends, throws, copies ===== -/
section HeapRows
variable {G : amG} {M : amM} {Q : amR → amH → Prop} {p : Program} {e : Env} {R : Room} {s : State} {m : MethodId} {args : Array Value} {below : List Frame} {meth : Method} {c : Code} {Z : State → Prop} {H : Heap} {locs : List Loc} {cells slots : Nat} {LS : Array Slot} {ls : List (Option amV)} {sk : List amV} {h : amH}
variable {K : amK1} {J : amJ1} {pc len : Nat} {aux : Nat × Nat × Nat} {S : Option amS}
theorem amA.lk (A : amA G M Q p e R s m args below meth c Z H locs cells slots LS ls sk h) : meth.locks = false := A.2.1.2.2.2.2.1
theorem amA.rt (A : amA G M Q p e R s m args below meth c Z H locs cells slots LS ls sk h) : meth.sig.returnType = sr M.1 := A.2.1.2.2.2.1
theorem amA.lc (A : amA G M Q p e R s m args below meth c Z H locs cells slots LS ls sk h) : ∀ z ∈ locs, gB G ≤ z.base := A.2.2.2.2.2.1
theorem amA.q (A : amA G M Q p e R s m args below meth c Z H locs cells slots LS ls sk h) {r : Option amV} (hq : Q (Sum.inl r) h) (ho : ∀ v, r = some v → amOk v) : ∀ t : State, t.heap = H → s.WarmedH t.vm → amQ G Q args s (.returned (r.map (amRv (gB G)))) t :=
  fun t ht _ => ⟨r, h, hq, ho, rfl, by rw [ht]; exact A.rel, by rw [ht]; exact A.2.2.2.2.1⟩
theorem X_ireturn (he : amOkE M (pc, .ireturn, len, aux, S)) (hs : amStep G M Q (pc, .ireturn, len, aux, S) K J ls sk h) : X G M Q pc ls sk h := by
  obtain ⟨hd, hl⟩ := he
  cases (show len = 1 from hl)
  intro p e R s m args below meth c Z H locs cells slots LS A
  revert hs A
  rcases sk with _ | ⟨x | _ | _ | _ | _, _ | ⟨_, _⟩⟩ <;> first | exact fun q => q.elim | skip
  intro hs A
  have hs : (match sr M.1 with
      | some .int => Q (Sum.inl (some (aI x))) h
      | some .boolean => (x = 0 ∨ x = 1) ∧ Q (Sum.inl (some (aI x))) h
      | _ => False) := hs
  have ox : amIn x := am_hd A.ok
  have ho : ∀ v, some (aI x) = some v → amOk v := fun v hv => by cases hv; exact ox
  have hz := A.2.2.1
  rcases hz with hz | ⟨-, hb, hz⟩
  · subst hz
    refine vx_ret (W.widen A.cR.1 A.cR.2 ?_)
    split at hs
    · rename_i e1
      exact W.iret A.hx A.hb (A.rt.trans e1) (A.q (r := some (aI x)) hs ho) A.lc hd A.lk
    · rename_i e1
      exact W.zret A.hx A.hb (A.rt.trans e1) (by rcases hs.1 with rfl | rfl <;> rfl) (A.q (r := some (aI x)) hs.2 ho) A.lc hd A.lk
    · exact hs.elim
  · rw [hb] at hs
    exact hz x h H locs cells slots LS pc hs.2 hs.1 A.rel A.2.2.2.2.1 A.lc A.2.2.2.2.2.2.1 A.2.2.2.2.2.2.2.1 hd
theorem X_lreturn (he : amOkE M (pc, .lreturn, len, aux, S)) (hs : amStep G M Q (pc, .lreturn, len, aux, S) K J ls sk h) : X G M Q pc ls sk h := by
  obtain ⟨hd, hl⟩ := he
  cases (show len = 1 from hl)
  intro p e R s m args below meth c Z H locs cells slots LS A
  revert hs A
  rcases sk with _ | ⟨_ | _ | x | _ | _, _ | ⟨_, _⟩⟩ <;> first | exact fun q => q.elim | skip
  intro hs A
  have hs : sr M.1 = some .long ∧ Q (Sum.inl (some (aL x))) h := hs
  rcases A.2.2.1 with hz | ⟨-, hb, hz⟩
  · subst hz
    exact vx_ret (W.widen A.cR.1 A.cR.2 (W.lret A.hx A.hb (A.rt.trans hs.1) (A.q (r := some (aL x)) hs.2 (fun v hv => by cases hv; trivial)) A.lc hd A.lk))
  · rw [hs.1] at hb; cases hb
theorem X_dreturn (he : amOkE M (pc, .dreturn, len, aux, S)) (hs : amStep G M Q (pc, .dreturn, len, aux, S) K J ls sk h) : X G M Q pc ls sk h := by
  obtain ⟨hd, hl⟩ := he
  cases (show len = 1 from hl)
  intro p e R s m args below meth c Z H locs cells slots LS A
  revert hs A
  rcases sk with _ | ⟨_ | _ | _ | x | _, _ | ⟨_, _⟩⟩ <;> first | exact fun q => q.elim | skip
  intro hs A
  have hs : sr M.1 = some .double ∧ Q (Sum.inl (some (aD x))) h := hs
  rcases A.2.2.1 with hz | ⟨-, hb, hz⟩
  · subst hz
    exact vx_ret (W.widen A.cR.1 A.cR.2 (W.dret A.hx A.hb (A.rt.trans hs.1) (A.q (r := some (aD x)) hs.2 (fun v hv => by cases hv; trivial)) A.lc hd A.lk))
  · rw [hs.1] at hb; cases hb
theorem X_return (he : amOkE M (pc, .return_, len, aux, S)) (hs : amStep G M Q (pc, .return_, len, aux, S) K J ls sk h) : X G M Q pc ls sk h := by
  obtain ⟨hd, hl⟩ := he
  cases (show len = 1 from hl)
  intro p e R s m args below meth c Z H locs cells slots LS A
  revert hs A
  rcases sk with _ | ⟨_, _⟩
  · intro hs A
    have hs : sr M.1 = none ∧ Q (Sum.inl none) h := hs
    rcases A.2.2.1 with hz | ⟨-, hb, hz⟩
    · subst hz
      exact vx_ret (W.widen A.cR.1 A.cR.2 (W.vret A.hx A.hb (A.rt.trans hs.1) (A.q (r := none) hs.2 (fun v hv => by cases hv)) A.lc hd A.lk))
    · rw [hs.1] at hb; cases hb
  · exact fun q => q.elim
theorem amA.z (A : amA G M Q p e R s m args below meth c Z H locs cells slots LS ls sk h) {C n d : String} (hz : vx_Zq C n d (fun q => gB G ≤ q) (gs G) (gs G).heap) : vx_Zq C n d (fun q => gB G ≤ q) s s.heap :=
  (vx_Zq.moved A.hW.alike hz).kept (fun a h1 _ => A.2.1.2.2.2.2.2.2.2.2.2.2.2.2 a h1)
theorem amA.wf (A : amA G M Q p e R s m args below meth c Z H locs cells slots LS ls sk h) {w : Jvm.Cond} (hw : w ∈ lw_tbl) (hk : w.keepsFace = true) (ho : w.onTables = true) (a' : Array Value) : w.before a' s = true := by
  have h1 : w.before #[Value.ref (gb G)] ((gs G).setVm s.vm) = true := Cond.before_shiftedFace (State.Shifted.of_warmed A.hW) w hk (A.1.2.1 w hw)
  exact va_Nw.use ho (va_Nw.same (u := (gs G).setVm s.vm) ho rfl (va_Nw.of ho h1))
theorem X_throw {idx j a2 a3 : Nat} (he : amOkE M (pc, .new idx, len, (100 + j, a2, a3), S)) (hs : amStep G M Q (pc, .new idx, len, (100 + j, a2, a3), S) K J ls sk h) : X G M Q pc ls sk h := by
  obtain ⟨hd, hl⟩ := he
  have hl : len = 3 ∧ amThr M pc idx (100 + j - 100) := by
    have q : if 100 + j < 100 then _ else _ := hl
    rw [if_neg (by omega)] at q; exact q
  have hs2 : (1 ≤ hC h ∧ 6 ≤ hT h ∧ amW8 sk) ∧ Q (Sum.inr (100 + j - 100)) (hThrow h) := by
    have q : if 100 + j < 100 then _ else _ := hs
    rw [if_neg (by omega)] at q; exact q
  rw [show 100 + j - 100 = j by omega] at hl hs2
  obtain ⟨rfl, hj, hsh, ⟨f1, f2⟩, is, ic, ls9, tx, wide, w1, w2, w3, hat, hgood, d3, d4, d6, d9⟩ := hl
  obtain ⟨⟨b1, b2, b3⟩, hq⟩ := hs2
  intro p e R s m args below meth c Z H locs cells slots LS A
  have hw8 := am_w8 (B := gB G) b3
  have hfr := A.fR
  have e1 : cells + hC h = R.cells := A.2.2.2.2.2.2.1
  have e2 : slots + hT h = R.slots := A.2.2.2.2.2.2.2.1
  rcases A.2.2.1 with hz | ⟨hz, -⟩
  · subst hz
    obtain ⟨sa, hstr⟩ := A.1.2.2.2.2.2.2.2.2.1 _ _ _ w1
    have hstr' : vk_R M.2.1 is tx sa s := vk_R.warm A.hW hstr
    have htab : c.exceptionTable.toList = [] := by
      have q := A.2.1.2.2.2.2.2.2.2.2.1
      rw [hsh] at q
      exact List.map_eq_nil_iff.mp q
    have hat' : ∀ w ∈ vx_atS M.2.1 ic (amEx j) ["java/lang/RuntimeException", "java/lang/Exception"], w.before args s = true := fun w hw => A.wf (hat w hw).1 (Bundle.ownAtoms_keepsFace w (List.mem_filter.mp hw).1) (hat w hw).2 args
    have hcf : Bundle.fit (amEx j) = true := by
      match j, hj with
      | 0, _ => decide
      | 1, _ => decide
      | 2, _ => decide
    have hx : ∀ t : State, s.vm.Alike t.vm → H.size ≤ t.heap.size → (∀ q : Nat, q < H.size → t.heap[q]? = H[q]?) → amXC G Q (amEx j) s t := by
      intro t _ hz ho
      refine ⟨j, hThrow h, hq, rfl, hj, ⟨fun k q hk => ?_, A.rel.2.1, fun q hq => ?_, ?_, fun q => absurd q (by show ¬ hX h + 1 = 0; omega)⟩, Nat.le_trans A.2.2.2.2.1 hz⟩
      · exact (A.rel.1 k q hk).kept (ho _ ((A.rel.1 k q hk).lt))
      · have := A.rel.2.2.2.1
        rw [ho q (by have : q < gB G := hq; omega)]; exact A.rel.2.2.1 q hq
      · exact Nat.le_trans A.rel.2.2.2.1 hz
    cases wide with
    | true =>
      obtain ⟨d4, rfl⟩ := d4
      exact vx_throwSW A.hx A.hb A.1.1 A.hown hcf (by decide) (A.w w2 rfl args) (A.w w3 rfl args) hstr' hat' hgood (A.z A.1.2.2.2.2.2.2.1) (A.z A.1.2.2.2.2.2.2.2.1) A.vs A.ml.symm hd d3 d4 d6 d9 (fun x hx => by rw [htab] at hx; cases hx) (by show 2 + 3 < _; omega) (by show _ + (13 * 3 + 43) ≤ _; omega) (by omega) (by omega) A.lk hx A.lc (by omega) (by omega)
    | false =>
      obtain ⟨d4, rfl⟩ := d4
      exact vx_throwS A.hx A.hb A.1.1 A.hown hcf (by decide) (A.w w2 rfl args) (A.w w3 rfl args) hstr' hat' hgood (A.z A.1.2.2.2.2.2.2.1) (A.z A.1.2.2.2.2.2.2.2.1) A.vs A.ml.symm hd d3 d4 d6 d9 (fun x hx => by rw [htab] at hx; cases hx) (by show 2 + 3 < _; omega) (by show _ + (13 * 3 + 43) ≤ _; omega) (by omega) (by omega) A.lk hx A.lc (by omega) (by omega)
  · exact absurd hq (hz _ _)
end HeapRows
end
section
/-! ===== the rows of the abstract machine: calls ===== -/
theorem amPop_of : ∀ (n : Nat) (sk as r : List amV), amPop n sk = some (as, r) → sk = as.reverse ++ r ∧ as.length = n := by
  intro n
  induction n with
  | zero => intro sk as r h; cases h; exact ⟨rfl, rfl⟩
  | succ n ih =>
    intro sk as r h
    cases sk with
    | nil => cases h
    | cons v sk =>
      simp only [amPop] at h
      cases hq : amPop n sk with
      | none => rw [hq] at h; cases h
      | some q =>
        obtain ⟨as', r'⟩ := q
        rw [hq] at h
        cases h
        obtain ⟨h1, h2⟩ := ih sk as' r hq
        exact ⟨by rw [h1]; simp, by simp [h2]⟩
theorem amRel.give {G : amG} {h : amH} {H : Heap} (hr : amRel G h H) (c t : Nat) : amRel G (hGive h c t) H := hr
theorem amPc_blind (G : amG) (as : List amV) (h : amH) : FrameBlind (amPc G as h) := fun _ _ _ _ q => q
theorem am_pair {j k : Nat} (hj : j < 3) (hk : k < 3) (h : k ≠ j) : (amEx j, amEx k) ∈ ([("java/lang/IndexOutOfBoundsException", "java/lang/IllegalArgumentException"), ("java/lang/IndexOutOfBoundsException", "java/lang/IllegalStateException"), ("java/lang/IllegalArgumentException", "java/lang/IllegalStateException"), ("java/lang/IllegalArgumentException", "java/lang/IndexOutOfBoundsException"), ("java/lang/IllegalStateException", "java/lang/IndexOutOfBoundsException"), ("java/lang/IllegalStateException", "java/lang/IllegalArgumentException")] : List (String × String)) := by
  have hj' : j = 0 ∨ j = 1 ∨ j = 2 := by omega
  have hk' : k = 0 ∨ k = 1 ∨ k = 2 := by omega
  rcases hj' with rfl | rfl | rfl <;> rcases hk' with rfl | rfl | rfl
  · exact absurd rfl h
  · exact List.mem_of_getElem? (i := 0) rfl
  · exact List.mem_of_getElem? (i := 1) rfl
  · exact List.mem_of_getElem? (i := 3) rfl
  · exact absurd rfl h
  · exact List.mem_of_getElem? (i := 2) rfl
  · exact List.mem_of_getElem? (i := 4) rfl
  · exact List.mem_of_getElem? (i := 5) rfl
  · exact absurd rfl h
section HeapRows
variable {G : amG} {M : amM} {Q : amR → amH → Prop} {p : Program} {e : Env} {R : Room} {s : State} {m : MethodId} {args : Array Value} {below : List Frame} {meth : Method} {c : Code} {Z : State → Prop} {H : Heap} {locs : List Loc} {cells slots : Nat} {LS : Array Slot} {ls : List (Option amV)} {sk : List amV} {h : amH}
variable {K : amK1} {J : amJ1} {pc len : Nat}
/-- what a method's table catches -/
theorem am_catch {j pc t : Nat} (hj : j < 3) : ∀ (l : List (Nat × Nat × Nat × Nat)) (ks : List Nat), (∀ k ∈ ks, k < 3) → amCatch j pc l ks = some t → ∃ (i : Nat) (q : Nat × Nat × Nat × Nat), l[i]? = some q ∧ ks[i]? = some j ∧ (q.1 ≤ pc ∧ pc < q.2.1) ∧ q.2.2.1 = t ∧ ∀ i' q', i' < i → l[i']? = some q' → (¬ (q'.1 ≤ pc ∧ pc < q'.2.1)) ∨ ∃ k, ks[i']? = some k ∧ k < 3 ∧ k ≠ j := by
  intro l
  induction l with
  | nil => intro ks _ h; cases ks <;> cases h
  | cons q l ih =>
    intro ks hk h
    cases ks with
    | nil => obtain ⟨a, b, t0, ct⟩ := q; cases h
    | cons k ks =>
      obtain ⟨a, b, t0, ct⟩ := q
      simp only [amCatch] at h
      split at h
      · rename_i hc
        cases h
        exact ⟨0, (a, b, t, ct), rfl, by rw [← hc.2.2]; rfl, ⟨hc.1, hc.2.1⟩, rfl, fun i' q' hi => absurd hi (Nat.not_lt_zero _)⟩
      · rename_i hc
        obtain ⟨i, q, h1, h2, h3, h4, h5⟩ := ih ks (fun k' h' => hk k' (List.mem_cons_of_mem _ h')) h
        refine ⟨i + 1, q, h1, h2, h3, h4, fun i' q' hi hq' => ?_⟩
        cases i' with
        | zero =>
          cases hq'
          by_cases hp : a ≤ pc ∧ pc < b
          · exact Or.inr ⟨k, rfl, hk k List.mem_cons_self, fun e => hc ⟨hp.1, hp.2, e⟩⟩
          · exact Or.inl hp
        | succ i' => exact h5 i' q' (by omega) hq'
/-- behind a call -/
theorem am_after {S : amS} {r : List amV} {st0 : List Value} (hTb : amTab M) (A : amA G M Q p e R s m args below meth c Z H locs cells slots LS ls r h) (hc : sc S ≤ hC h) (ht : st S ≤ hT h) {a : Array Value}
    (hr : vx_Run p (gl G) e R s m args below meth c H locs cells slots (sc S) (st S) (F0 m pc LS st0) (r.map (amRv (gB G))) (amQ G (amAf M Q S pc K J ls r h) a) (amXC G (amAf M Q S pc K J ls r h)) (fun q => gB G ≤ q))
    (hK : amHK G M Q pc 3 K) (hJ : amHJ G M Q J) : W p (gl G) e R s m args below meth c H locs cells slots Z (F0 m pc LS st0) := by
  have e1 : cells + hC h = R.cells := A.2.2.2.2.2.2.1
  have e2 : slots + hT h = R.slots := A.2.2.2.2.2.2.2.1
  intro T hTH X0
  have hlocs : ∀ L : List Loc, (∀ q ∈ L, gB G ≤ q.base) → ∀ z ∈ locs ++ L, gB G ≤ z.base := fun L hL z hz => (List.mem_append.mp hz).elim (A.lc z) (hL z)
  rcases hr T hTH X0 with ⟨v, st₀, t, T', L, h0, X', hL, e3, e4, ⟨rr, h1, hq, hok, ho, hrel, hsz⟩, stp⟩ | ⟨q, st₀, t, T', L, E, ce, h0, X', hL, e3, e4, ⟨j, h1, hq, hE, hj, hrel, hsz⟩, hce, hcv, hcl, stp⟩
  · have hv : v = rr.map (amRv (gB G)) := by injection ho
    subst hv
    rw [h0] at hsz
    rw [← e3] at hrel hsz
    cases rr with
    | none =>
      have k := hK _ _ _ hq.2 _ _ _ _ _ _ _ _ _ _ _ _ _ _ _ (A.world (sk' := r) (h' := hGive h1 (hC h - sc S) (hT h - st S)) (hrel.give _ _) hsz (hlocs L hL) (by show cells + sc S + (hC h - sc S) = _; omega) (by show slots + st S + (hT h - st S) = _; omega) A.ok)
      obtain ⟨t2, a1, b1⟩ := k T' rfl X'
      exact ⟨t2, stp t2 a1, b1⟩
    | some v =>
      have k := hK _ _ _ hq.2 _ _ _ _ _ _ _ _ _ _ _ _ _ _ _ (A.world (sk' := v :: r) (h' := hGive h1 (hC h - sc S) (hT h - st S)) (hrel.give _ _) hsz (hlocs L hL) (by show cells + sc S + (hC h - sc S) = _; omega) (by show slots + st S + (hT h - st S) = _; omega) (am_all1 (hok v rfl) A.ok))
      obtain ⟨t2, a1, b1⟩ := k T' rfl X'
      exact ⟨t2, stp t2 a1, b1⟩
  · rw [h0] at hsz
    rw [← e3] at hrel hsz hce
    have hw : vx_W p (gl G) e R s m args below meth c T'.heap (locs ++ L) (cells + sc S) (slots + st S) Z (F0 m pc LS (r.map (amRv (gB G)))) q := by
      cases hsh : sh M.1 with
      | nil =>
        have hq2 : Q (Sum.inr j) (hGive h1 (hC h - sc S) (hT h - st S)) := by
          have q2 := hq
          unfold amAf at q2
          rw [hsh] at q2
          exact q2
        rcases A.2.2.1 with hz | ⟨hz, -⟩
        · subst hz
          have htab : c.exceptionTable.toList = [] := by
            have q := A.2.1.2.2.2.2.2.2.2.2.1
            rw [hsh] at q
            exact List.map_eq_nil_iff.mp q
          exact vx_out (fun x hx => by rw [htab] at hx; cases hx) A.lk hce hcv hcl (fun t2 ht2 _ => ⟨j, _, hq2, hE, hj, by rw [ht2]; exact hrel, by rw [ht2]; exact Nat.le_trans A.2.2.2.2.1 hsz⟩) (hlocs L hL) (by omega) (by omega)
        · exact absurd hq2 (hz _ _)
      | cons x0 xs =>
        have hq2 : match amCatch j pc (sh M.1) (amHk M.1) with
            | some t => ∀ q : Nat, J t ls [aO q] (hGive h1 (hC h - sc S) (hT h - st S))
            | none => False := by
          have q2 := hq
          unfold amAf at q2
          dsimp only at q2
          split at q2
          · rename_i h9; rw [hsh] at h9; cases h9
          · exact q2
        cases hca : amCatch j pc (sh M.1) (amHk M.1) with
        | none => rw [hca] at hq2; exact hq2.elim
        | some tt =>
          rw [hca] at hq2
          have hks : ∀ k ∈ amHk M.1, k < 3 := fun k hk => by
            obtain ⟨i, hi⟩ := List.getElem?_of_mem hk
            have hi2 : i < (sh M.1).length := by rw [hTb.1]; exact (List.getElem?_eq_some_iff.mp hi).1
            exact (hTb.2 i _ k (List.getElem?_eq_getElem hi2) hi).1
          obtain ⟨i, qq, g1, g2, g3, g4, g5⟩ := am_catch hj _ _ hks hca
          obtain ⟨-, n0, w1, w2⟩ := hTb.2 i qq j g1 g2
          have htab := A.2.1.2.2.2.2.2.2.2.2.1
          rw [← htab, List.getElem?_map] at g1
          obtain ⟨x, hx1, hx2⟩ := Option.map_eq_some_iff.mp g1
          subst hx2
          have hi : i < c.exceptionTable.toList.length := (List.getElem?_eq_some_iff.mp hx1).1
          have hsplit : c.exceptionTable.toList = c.exceptionTable.toList.take i ++ x :: c.exceptionTable.toList.drop (i + 1) := by
            have := (List.getElem?_eq_some_iff.mp hx1).2
            rw [← this, ← List.drop_eq_getElem_cons hi, List.take_append_drop]
          have hk := hJ _ _ _ _ (hq2 q) _ _ _ _ _ _ _ _ _ _ _ _ _ _ _ (A.world (sk' := [aO q]) (h' := hGive h1 (hC h - sc S) (hT h - st S)) (hrel.give _ _) hsz (hlocs L hL) (by show cells + sc S + (hC h - sc S) = _; omega) (by show slots + st S + (hT h - st S) = _; omega) (am_all1 (v := aO q) trivial (fun _ h => absurd h List.not_mem_nil)))
          rw [hE] at hcl
          refine vx_catch (name := amEx j) (E := amEx j) A.hown _ x _ hsplit (fun z hz => ?_) (by simp [covers, g3.1, g3.2]) n0 (A.w w1 rfl args) (va_Nw.use rfl (va_Nw.warmC A.hW (va_Nw.of rfl (A.1.2.1 _ w2)))) hce hcv hcl (by rw [← show x.handlerPc = tt from g4] at hk; exact hk)
          obtain ⟨i', hi'⟩ := List.getElem?_of_mem hz
          have hlt : i' < i := by
            have := (List.getElem?_eq_some_iff.mp hi').1
            rw [List.length_take] at this; omega
          rw [List.getElem?_take, if_pos hlt] at hi'
          have hi2 : (sh M.1)[i']? = some (z.startPc, z.endPc, z.handlerPc, z.catchType) := by
            rw [← htab, List.getElem?_map, hi']; rfl
          rcases g5 i' _ hlt hi2 with hh | ⟨k, hk1, hk2, hk3⟩
          · refine Or.inl ?_
            simp only [covers, Bool.and_eq_false_iff, decide_eq_false_iff_not]
            rcases Nat.lt_or_ge pc z.startPc with a1 | a1
            · exact Or.inl (by omega)
            · exact Or.inr (fun b1 => hh ⟨a1, b1⟩)
          · obtain ⟨-, n1, w3, -⟩ := hTb.2 i' _ k hi2 hk1
            refine Or.inr ⟨n1, amEx k, A.w w3 rfl args, va_Nc.moved A.hW.alike (A.1.2.2.2.2.2.2.2.2.2 _ _ ?_)⟩
            exact am_pair hj hk2 hk3
    obtain ⟨t2, a1, b1⟩ := hw T' rfl X'
    exact ⟨t2, stp.trans a1, b1⟩
end HeapRows
end
section
/-! ===== the rows of the abstract machine: calls by their kinds, copies; the judgement's laws ===== -/
theorem amRecv_of {h : amH} {ci : Nat} {as : List amV} (hr : amRecv h ci as) : ∃ (b : Nat) (as' : List amV), as = aR (some b) :: as' ∧ (hS h)[b]? = some (ci, 0) := by
  rcases as with _ | ⟨_ | (_ | b) | _ | _ | _, as'⟩ <;> first | exact absurd hr id | exact ⟨b, as', rfl, hr⟩
theorem amSelf_of {as : List amV} (hr : amSelf as) : ∃ (b : Nat) (as' : List amV), as = aR (some b) :: as' := by
  rcases as with _ | ⟨_ | (_ | b) | _ | _ | _, as'⟩ <;> first | exact absurd hr id | exact ⟨b, as', rfl⟩
section HeapRows
variable {G : amG} {M : amM} {Q : amR → amH → Prop} {p : Program} {e : Env} {R : Room} {s : State} {m : MethodId} {args : Array Value} {below : List Frame} {meth : Method} {c : Code} {Z : State → Prop} {H : Heap} {locs : List Loc} {cells slots : Nat} {LS : Array Slot} {ls : List (Option amV)} {sk : List amV} {h : amH}
variable {K : amK1} {J : amJ1} {pc len : Nat} {aux : Nat × Nat × Nat} {S : Option amS}
theorem am_cw (A : amA G M Q p e R s m args below meth c Z H locs cells slots LS ls sk h) {w : Jvm.Cond} (hw : w ∈ lw_tbl) (hg : goodWord w = true) : ∀ w' ∈ [w], ∀ (a' : Array Value) (U : State), s.WarmedH U.vm → w'.before a' U = true := fun w' hw' a' U hU => by
  cases List.mem_singleton.mp hw'
  exact word_at hU (good_of_word hg) (A.w hw hg args)
theorem am_pre (A : amA G M Q p e R s m args below meth c Z H locs cells slots LS ls sk h) (as : List amV) (hok : ∀ v ∈ as, amOk v) (cc tt : Nat) : ∀ U : State, U.heap = H → s.WarmedH U.vm → amPc G as (hGive h cc tt) (as.map (amRv (gB G))).toArray U :=
  fun U hU hW => ⟨rfl, hok, State.WarmedH.trans A.hW hW, by rw [hU]; exact A.rel.give cc tt⟩
theorem am_split {as r : List amV} (A : amA G M Q p e R s m args below meth c Z H locs cells slots LS ls (as.reverse ++ r) h) : (∀ v ∈ as, amOk v) ∧ amA G M Q p e R s m args below meth c Z H locs cells slots LS ls r h :=
  ⟨fun v hv => A.ok v (List.mem_append_left _ (List.mem_reverse.mpr hv)), A.to (fun v hv => A.ok v (List.mem_append_right _ hv))⟩
theorem X_call {ig : Instr} {idx n ci kind : Nat} {S : amS} (hTb : amTab M) (hd : decode (sb M.1) pc = .ok (ig, 3)) (hig : ((kind = 0) ∧ ig = .invokevirtual idx) ∨ ((kind = 1 ∨ kind = 4) ∧ ig = .invokestatic idx) ∨ ((kind = 2 ∨ kind = 5) ∧ ig = .invokespecial idx)) (hw : amCal M idx ci kind n S)
    (hs : amCall G M Q pc ci kind n S K J ls h (amPop n sk)) (hK : amHK G M Q pc 3 K) (hJ : amHJ G M Q J) : X G M Q pc ls sk h := by
  cases hp : amPop n sk with
  | none => rw [hp] at hs; exact hs.elim
  | some q =>
    obtain ⟨as, r⟩ := q
    rw [hp] at hs
    obtain ⟨⟨hc, ht, hw8⟩, hrecv, hct⟩ := (id hs : _ ∧ _ ∧ _)
    obtain ⟨hsk, hlen⟩ := amPop_of _ _ _ _ hp
    subst hsk
    obtain ⟨⟨wc, gc⟩, wi, hcls, ⟨hf1, hf2⟩, hkd⟩ := hw
    intro p e R s m args below meth c Z H locs cells slots LS A0
    obtain ⟨hok, A⟩ := am_split A0
    have hfr := A.fR
    have e1 : cells + hC h = R.cells := A.2.2.2.2.2.2.1
    have e2 : slots + hT h = R.slots := A.2.2.2.2.2.2.2.1
    have hw9 := am_w8 (B := gB G) hw8
    have hst : (as.reverse ++ r).map (amRv (gB G)) = (as.map (amRv (gB G))).reverse ++ r.map (amRv (gB G)) := by rw [List.map_append, List.map_reverse]
    have hcf : CallFix p m c (sb M.1) (sm M.1) s args lw_tbl M.2.1 → True := fun _ => trivial
    have hml : c.maxLocals = sm M.1 := A.2.1.2.2.1
    have hLS : LS.size = sm M.1 := A.hl.1
    have hpre := am_pre A as hok (sc S) (st S)
    have hbl := amPc_blind G as (hGive h (sc S) (st S))
    have hcw := am_cw A wc gc
    have hfix : CallFix p m c (sb M.1) (sm M.1) s args [] M.2.1 := ⟨A.hx, A.hb, hml, A.hown, fun _ h => absurd h List.not_mem_nil⟩
    have hroom : cells + sc S ≤ R.cells ∧ slots + st S ≤ R.slots := ⟨by omega, by omega⟩
    have hmr : 2 * (F0 m pc LS ((as.reverse ++ r).map (amRv (gB G)))).monitorRoom + ((r.map (amRv (gB G))).map fun v => v.category).sum ≤ 8 := lv_room hw9
    have wc1 := A.w wc gc args
    have wi1 := A.w wi rfl args
    rcases hig with ⟨rfl, rfl⟩ | ⟨hk, rfl⟩ | ⟨hk, rfl⟩
    · obtain ⟨⟨C, T, N, hcl, hyc⟩, w1, w2, w3, hn, hh0⟩ := hkd
      have ecode : amCode S = .code (sy S) (sb S) (sm S) (sr S) := by unfold amCode; rw [hh0]
      rw [ecode] at hcw wc1
      have hct' := hct
      unfold CT at hct'
      rw [ecode] at hct'
      obtain ⟨b, as', ea, hrecv⟩ := amRecv_of (show amRecv h ci as from hrecv)
      subst ea
      have hcc := (amCls ci C T N hcl).1
      have ev := amWs_at (B := gB G) (cA := gA G) hrecv
      rw [show amCell (gB G) (gA G) h b (ci, 0) = .inr (ci, amFs (gB G) h ci b) from if_pos hcc] at ev
      refine am_after hTb A hc ht (a := ((Value.ref (gB G + b)) :: as'.map (amRv (gB G))).toArray) (vx_runV (C := C) (n := n - 1) hfix hct' ⟨⟨rfl, rfl, by show sf S + 1 ≤ _; omega, by show 8 + (sm S + 11) + sl S ≤ _; omega, hcw, List.mem_singleton.mpr rfl, wc1, wi1, hcls, fun sig hsig => ?_, A.w w1 rfl args⟩, A.w w2 rfl args, by rw [← hyc]; exact A.w w3 rfl args⟩ ⟨hbl, va_recv A.k A.rel.1 (ci := ci) (q0 := b) hcl ev, hpre⟩ rfl ?_ hLS (hst.trans (by rw [List.map_cons, List.reverse_cons, List.append_assoc]; rfl)) hmr hd hroom) hK hJ
      · rw [hsig] at hn
        have : sig.parameters.length + 1 = n := Option.some.inj hn
        omega
      · have : as'.length + 1 = n := hlen
        rw [List.length_map]; omega
    · rcases hk with rfl | rfl
      · obtain ⟨w1, w2, hn⟩ := hkd
        have hn' : ∀ sig, parseMethodDescriptor (sy S).desc = some sig → n = sig.parameters.length := fun sig hsig => by
          rw [hsig] at hn
          exact (Option.some.inj hn).symm
        have hct' := hct
        unfold CT at hct'
        cases hh0 : sh S with
        | nil =>
          have ecode : amCode S = .code (sy S) (sb S) (sm S) (sr S) := by unfold amCode; rw [hh0]
          rw [ecode] at hcw wc1 hct'
          exact am_after hTb A hc ht (vx_runS (n := n) hfix hct' ⟨⟨rfl, rfl, by show sf S + 1 ≤ _; omega, by show 8 + (sm S + 11) + sl S ≤ _; omega, hcw, List.mem_singleton.mpr rfl, wc1, wi1, hcls, hn', A.w w1 rfl args⟩, A.w w2 rfl args⟩ ⟨hbl, hpre⟩ rfl (by rw [List.length_map]; exact hlen) hLS hst hmr hd hroom) hK hJ
        | cons x0 xs =>
          have ecode : amCode S = .codeWith (sy S) (sb S) (sm S) (sr S) (x0 :: xs) := by unfold amCode; rw [hh0]
          rw [ecode] at hcw wc1 hct'
          exact am_after hTb A hc ht (vx_runSX (n := n) hfix hct' ⟨⟨rfl, rfl, by show sf S + 1 ≤ _; omega, by show 8 + (sm S + 11) + sl S ≤ _; omega, hcw, List.mem_singleton.mpr rfl⟩, wc1, wi1, hcls, hn', A.w w1 rfl args, A.w w2 rfl args⟩ ⟨hbl, hpre⟩ rfl (by rw [List.length_map]; exact hlen) hLS hst hmr hd hroom) hK hJ
      · obtain ⟨⟨hs0, w1⟩, w2, hn, hh0⟩ := hkd
        have hn' : ∀ sig, parseMethodDescriptor (sy S).desc = some sig → n = sig.parameters.length := fun sig hsig => by
          rw [hsig] at hn
          exact (Option.some.inj hn).symm
        have hct' := hct
        unfold CT at hct'
        have ecode : amCode S = .code (sy S) (sb S) (sm S) (sr S) := by unfold amCode; rw [hh0]
        rw [ecode] at hcw wc1 hct'
        have wn : (Cond.methodLinkNest M.2.1 idx (sy S) hs0).before args s = true := va_Nw.use rfl (va_Nw.warmM A.hW (va_Nw.of rfl (A.1.2.1 _ w1)))
        exact am_after hTb A hc ht (vx_runSN (n := n) hfix hct' ⟨⟨⟨rfl, rfl, by show sf S + 1 ≤ _; omega, by show 8 + (sm S + 11) + sl S ≤ _; omega, hcw, List.mem_singleton.mpr rfl⟩, wc1, wi1, hcls, hn', wn⟩, A.w w2 rfl args, trivial⟩ ⟨hbl, hpre⟩ rfl (by rw [List.length_map]; exact hlen) hLS hst hmr hd hroom) hK hJ
    · have hself : amSelf as := by
        rcases hk with rfl | rfl
        · exact hrecv
        · exact hrecv
      obtain ⟨b, as', ea⟩ := amSelf_of hself
      subst ea
      rcases hk with rfl | rfl
      · obtain ⟨w1, w2, hin, hr0, hn, hh0⟩ := hkd
        have hct' := hct
        unfold CT at hct'
        have ecode : amCode S = .code (sy S) (sb S) (sm S) none := by unfold amCode; rw [hh0, hr0]
        rw [ecode] at hcw wc1 hct'
        refine am_after hTb A hc ht (vx_runI (n := n - 1) hfix hct' ⟨⟨rfl, rfl, by show sf S + 1 ≤ _; omega, by show 8 + (sm S + 11) + sl S ≤ _; omega, hcw, List.mem_singleton.mpr rfl, wc1, wi1, hcls, fun sig hsig => ?_, A.w w1 rfl args⟩, hin, A.w w2 rfl args⟩ ⟨hbl, hpre⟩ rfl ?_ hLS (hst.trans (by rw [List.map_cons, List.reverse_cons, List.append_assoc]; rfl)) hmr hd hroom) hK hJ
        · rw [hsig] at hn
          have : sig.parameters.length + 1 = n := Option.some.inj hn
          omega
        · have : as'.length + 1 = n := hlen
          rw [List.length_map]; omega
      · obtain ⟨⟨hs0, w1⟩, w2, hin, hr0, hn, hh0⟩ := hkd
        have hct' := hct
        unfold CT at hct'
        have ecode : amCode S = .code (sy S) (sb S) (sm S) none := by unfold amCode; rw [hh0, hr0]
        rw [ecode] at hcw wc1 hct'
        have wn : (Cond.methodLinkNest M.2.1 idx (sy S) hs0).before args s = true := va_Nw.use rfl (va_Nw.warmM A.hW (va_Nw.of rfl (A.1.2.1 _ w1)))
        refine am_after hTb A hc ht (vx_runIN (n := n - 1) hfix hct' ⟨⟨⟨rfl, rfl, by show sf S + 1 ≤ _; omega, by show 8 + (sm S + 11) + sl S ≤ _; omega, hcw, List.mem_singleton.mpr rfl⟩, wc1, wi1, hcls, fun sig hsig => ?_, wn⟩, hin, A.w w2 rfl args⟩ ⟨hbl, hpre⟩ rfl ?_ hLS (hst.trans (by rw [List.map_cons, List.reverse_cons, List.append_assoc]; rfl)) hmr hd hroom) hK hJ
        · rw [hsig] at hn
          have : sig.parameters.length + 1 = n := Option.some.inj hn
          omega
        · have : as'.length + 1 = n := hlen
          rw [List.length_map]; omega
/-- a copy from row to row, with the heap behind it: no cell is new -/
theorem am_copyW {l : Launch} {idx a0 a1 n0 n1 : Nat} {f g : Nat → Int32} {sp dp n : Int32} {rest : List Value} {own : String} {cI cm : ClassId} {kI kJ : Class} (hx : p.tables.exec = Jvm.exec) (hb : c.code = sb M.1) (hml : c.maxLocals = LS.size) (hown : s.vm.findClass own = some m.cls) (w1 : (Cond.methodLink own idx arraycopyName).before args s = true) (w2 : (Cond.native arraycopyName).before args s = true) (w3 : (Cond.static arraycopyName).before args s = true) (w4 : (Cond.initialized "java/lang/System").before args s = true)
    {cn : ClassId} (hk : s.vm.classes[cI]? = some kI) (hkk : kI.kind = .array cm .int) (hk' : s.vm.classes[cI]? = some kJ) (hkk' : kJ.kind = .array cn .int) (hc0 : H[a0]? = some (vp_cell cI (n0, .inl f))) (hc1 : H[a1]? = some (vp_cell cI (n1, .inl g))) (h1 : ¬ sp < 0) (h2 : ¬ dp < 0) (h3 : ¬ n < 0) (h4 : sp.toNatClampNeg + n.toNatClampNeg ≤ n0) (h5 : dp.toNatClampNeg + n.toNatClampNeg ≤ n1) (hfr : 1 ≤ R.frames) (hlo : (rest.map fun v => v.category).sum + (nativeFrameWords "java/lang/System" "arraycopy" 5 + 11) ≤ R.locals) (hd : decode (sb M.1) pc = .ok (.invokestatic idx, 3))
    (k : ∀ locs1 : List Loc, (∀ z ∈ locs1, z ∈ locs ∨ z.base = a1) → W p l e R s m args below meth c (H.setIfInBounds a1 (vp_cell cI (n1, .inl (va_cpy f g sp.toNatClampNeg dp.toNatClampNeg n.toNatClampNeg)))) locs1 cells slots Z (F0 m (pc + 3) LS rest)) : W p l e R s m args below meth c H locs cells slots Z (F0 m pc LS (.int n :: .int dp :: .ref a1 :: .int sp :: .ref a0 :: rest)) := by
  have hi : ∀ z : Int32, ¬ z < 0 → z.toInt = (z.toNatClampNeg : Int) := fun z hz => (toNatClampNeg_of_not_neg32 z hz).symm
  have hrd : ∀ i : Nat, i < n.toNatClampNeg → (vp_cell cI (n0, .inl f)).slots.getD (sp.toNatClampNeg + i) .null = .int (f (sp.toNatClampNeg + i)) := fun i h => by
    show (arrV cI n0 (fun j => Value.int (f j))).slots.getD _ _ = _
    rw [Array.getD_eq_getD_getElem?, arrV_read _ _ (by omega)]
    rfl
  have hcp : copied (vp_cell cI (n0, .inl f)) (vp_cell cI (n1, .inl g)) sp dp n = vp_cell cI (n1, .inl (va_cpy f g sp.toNatClampNeg dp.toNatClampNeg n.toNatClampNeg)) := va_copied (fun z => Value.int z) cI cI f g h4
  intro T hT X
  subst hT
  obtain ⟨vm', X1, st⟩ := X.arraycopy hx hown w1 w2 w3 w4 hc0 hc1 (fun _ q => by cases q) (fun _ q => by cases q) (fun q => by cases q) (fun q => by cases q) hk hk' hkk hkk' (by decide) h1 h2 h3
    (by rw [hi _ h1, hi _ h3]; show ¬ _ > ((arrV cI n0 (fun j => Value.int (f j))).slots.size : Int); rw [arrV_size]; omega)
    (by rw [hi _ h2, hi _ h3]; show ¬ _ > ((arrV cI n1 (fun j => Value.int (g j))).slots.size : Int); rw [arrV_size]; omega)
    (fun _ _ i h => by rw [hrd i h]; exact ⟨rfl, trivial⟩)
    (g := F0 m pc LS (.int n :: .int dp :: .ref a1 :: .int sp :: .ref a0 :: rest)) rfl hml.symm (rest := rest) rfl (by rw [hb]; exact hd) hfr (by show 2 * 0 + _ + _ ≤ _; omega)
  rw [hcp] at X1 st
  obtain ⟨t, b1, b2⟩ := k _ (fun z hz => (List.mem_append.mp hz).elim Or.inl (fun q => Or.inr (by
    obtain ⟨y, -, hy⟩ := List.mem_map.mp q
    rw [← hy]))) _ rfl X1
  exact ⟨t, st t b1, b2⟩
theorem X_copy {idx a1 a3 : Nat} (he : amOkE M (pc, .invokestatic idx, len, (a1, 13, a3), none)) (hs : amStep G M Q (pc, .invokestatic idx, len, (a1, 13, a3), none) K J ls sk h) (hK : amHK G M Q pc len K) : X G M Q pc ls sk h := by
  obtain ⟨hd, hl, ⟨b1, b2⟩, w1, w2, w3, w4⟩ := he
  cases (show len = 3 from hl)
  intro p e R s m args below meth c Z H locs cells slots LS A
  have hf := A.fR
  have hs : amCopy h (fun r h => K ls r h) sk := hs
  revert hs A
  rcases sk with _ | ⟨n | _ | _ | _ | _, _ | ⟨dp | _ | _ | _ | _, _ | ⟨_ | (_ | b) | _ | _ | _, _ | ⟨sp | _ | _ | _ | _, _ | ⟨_ | (_ | a) | _ | _ | _, r⟩⟩⟩⟩⟩ <;> first | exact fun _ q => q.elim | skip
  intro A hs
  obtain ⟨n0, n1, h0, h1, ⟨g1, g2, g3, g4, g5, g7, g8, g6⟩, hk⟩ := (id hs : ∃ _, _)
  have hw := am_w8 (B := gB G) g6
  have on : amIn n := am_hd A.ok
  have od : amIn dp := am_hd (am_tl A.ok)
  have os : amIn sp := am_hd (am_tl (am_tl (am_tl A.ok)))
  have en := amI_cl g1 on.2
  have ed := amI_cl g3 od.2
  have es := amI_cl g2 os.2
  have nn : ∀ z : Int, amIn z → 0 ≤ z → ¬ Int32.ofInt z < 0 := fun z hz h q => by
    rw [← amI_0, amI_lt hz amIn_0] at q; omega
  have hword : nativeFrameWords "java/lang/System" "arraycopy" 5 ≤ 20 := by decide
  have c0 : H[gB G + a]? = some (vp_cell (gA G 20) (n0, .inl (fun j => Int32.ofInt (hI h a j)))) := A.rel.1 a _ (amWs_at h0)
  have c1 : H[gB G + b]? = some (vp_cell (gA G 20) (n1, .inl (fun j => Int32.ofInt (hI h b j)))) := A.rel.1 b _ (amWs_at h1)
  obtain ⟨-, k0, hk0, cm0, hkk0⟩ := (A.k.2 0 _ (am_ty G 0 (by decide))).1 n0 (fun j => Value.int (Int32.ofInt (hI h a j)))
  obtain ⟨-, k1, hk1, cm1, hkk1⟩ := (A.k.2 0 _ (am_ty G 0 (by decide))).1 n1 (fun j => Value.int (Int32.ofInt (hI h b j)))
  refine am_copyW (cI := gA G 20) A.hx A.hb A.ml A.hown (A.w w1 rfl args) (A.w w2 rfl args) (A.w w3 rfl args) (A.w w4 rfl args) hk0 hkk0 hk1 hkk1 c0 c1 (nn _ os g2) (nn _ od g3) (nn _ on g1) (by rw [en, es]; omega) (by rw [en, ed]; omega) (by omega) (by omega) hd (fun locs1 hl1 => ?_)
  rw [en, ed, es]
  have hlt : gB G + b < H.size := (Array.getElem?_eq_some_iff.mp c1).1
  refine hK _ _ _ hk _ _ _ _ _ _ _ _ _ _ _ _ _ _ _ (A.world (h' := (uCpy h.1 a sp.toNat b dp.toNat n.toNat, h.2.1, h.2.2.1, h.2.2.2.1, h.2.2.2.2.1, h.2.2.2.2.2)) (amRel_set A.rel h1 rfl rfl (fun x y => ?_) (fun j hj s1 => ?_) ?_ (by simp) (fun q hq => ?_)) (Nat.le_of_eq (by simp)) (fun z hz => ?_) A.2.2.2.2.2.2.1 A.2.2.2.2.2.2.2.1 (am_tl (am_tl (am_tl (am_tl (am_tl A.ok))))))
  · show amIn (uCpy _ _ _ _ _ _ x y)
    unfold uCpy
    split
    · exact A.rel.2.1 _ _
    · exact A.rel.2.1 _ _
  · exact amCell_eq (fun y => by show uCpy _ _ _ _ _ _ j y = _; unfold uCpy; rw [if_neg (fun q => hj q.1)]) (fun _ => rfl) (fun _ => rfl) s1
  · show (H.setIfInBounds _ _)[gB G + b]? = some (vp_cell (gA G 20) (n1, .inl _))
    rw [Array.getElem?_setIfInBounds, if_pos rfl, if_pos hlt]
    congr 3
    funext y
    show va_cpy _ _ _ _ _ y = Int32.ofInt (uCpy h.1 a sp.toNat b dp.toNat n.toNat b y)
    unfold va_cpy uCpy
    by_cases hy : dp.toNat ≤ y ∧ y < dp.toNat + n.toNat
    · rw [if_pos hy, if_pos ⟨rfl, hy⟩]
    · rw [if_neg hy, if_neg (fun q => hy q.2)]
  · rw [Array.getElem?_setIfInBounds, if_neg (fun e => hq e.symm)]
  · rcases hl1 z hz with q | q
    · exact A.2.2.2.2.2.1 z q
    · rw [q]; exact Nat.le_add_right _ _
end HeapRows
end
