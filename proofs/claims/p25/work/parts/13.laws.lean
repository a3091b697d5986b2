/-! ===== the judgement's laws ===== -/
section Laws9
variable {G : amG} {M : amM} {Q : amR → amH → Prop}
set_option maxHeartbeats 4000000 in
theorem X_stepE {K : amK1} {J : amJ1} {e : amE} {ls : List (Option amV)} {sk : List amV} {h : amH} (hTb : amTab M) (he : amOkE M e) (hs : amStep G M Q e K J ls sk h) (hK : amHK G M Q e.1 e.2.2.1 K) (hJ : amHJ G M Q J) : X G M Q e.1 ls sk h := by
  obtain ⟨pc, i, len, ⟨a1, a2, a3⟩, S⟩ := e
  cases i with
  | iload k => exact X_iload he hs hK
  | iload_n k => exact X_iload_n he hs hK
  | aload k => exact X_aload he hs hK
  | aload_n k => exact X_aload_n he hs hK
  | lload k => exact X_lload he hs hK
  | lload_n k => exact X_lload_n he hs hK
  | dload k => exact X_dload he hs hK
  | dload_n k => exact X_dload_n he hs hK
  | istore k => exact X_istore he hs hK
  | istore_n k => exact X_istore_n he hs hK
  | astore k => exact X_astore he hs hK
  | astore_n k => exact X_astore_n he hs hK
  | lstore k => exact X_lstore he hs hK
  | lstore_n k => exact X_lstore_n he hs hK
  | dstore k => exact X_dstore he hs hK
  | dstore_n k => exact X_dstore_n he hs hK
  | iadd => exact X_iadd he hs hK
  | isub => exact X_isub he hs hK
  | imul => exact X_imul he hs hK
  | idiv => exact X_idiv he hs hK
  | irem => exact X_irem he hs hK
  | iand => exact X_iand he hs hK
  | ior => exact X_ior he hs hK
  | ishl => exact X_ishl he hs hK
  | ishr => exact X_ishr he hs hK
  | iushr => exact X_iushr he hs hK
  | dup_x2 => exact X_dup_x2 he hs hK
  | ldc k => exact X_ldc he hs hK
  | ineg => exact X_ineg he hs hK
  | i2l => exact X_i2l he hs hK
  | i2d => exact X_i2d he hs hK
  | ladd => exact X_ladd he hs hK
  | lsub => exact X_lsub he hs hK
  | lmul => exact X_lmul he hs hK
  | lor => exact X_lor he hs hK
  | lcmp => exact X_lcmp he hs hK
  | lshl => exact X_lshl he hs hK
  | dmul => exact X_dmul he hs hK
  | ddiv => exact X_ddiv he hs hK
  | dsub => exact X_dsub he hs hK
  | d2l => exact X_d2l he hs hK
  | dup => exact X_dup he hs hK
  | dup2 => exact X_dup2 he hs hK
  | pop => exact X_pop he hs hK
  | arraylength => exact X_arraylength he hs hK
  | iaload => exact X_iaload he hs hK
  | iastore => exact X_iastore he hs hK
  | aaload => exact X_aaload he hs hK
  | aastore => exact X_aastore he hs hK
  | dcmp op => exact X_dcmp he hs hK
  | iinc k n => exact X_iinc he hs hK
  | iconst n => exact X_iconst he hs hK
  | bipush n => exact X_bipush he hs hK
  | sipush n => exact X_sipush he hs hK
  | lconst n => exact X_lconst he hs hK
  | dconst n => exact X_dconst he hs hK
  | ldc2_w k => exact X_ldc2 he hs hK
  | goto off => exact X_goto he hs hJ
  | nop => exact X_nop hs hJ
  | if_icmp cc off => cases cc with
    | eq => exact X_ic_eq he hs hK hJ
    | ne => exact X_ic_ne he hs hK hJ
    | lt => exact X_ic_lt he hs hK hJ
    | ge => exact X_ic_ge he hs hK hJ
    | gt => exact X_ic_gt he hs hK hJ
    | le => exact X_ic_le he hs hK hJ
  | ifCond cc off => cases cc with
    | eq => exact X_if_eq he hs hK hJ
    | ne => exact X_if_ne he hs hK hJ
    | lt => exact X_if_lt he hs hK hJ
    | ge => exact X_if_ge he hs hK hJ
    | gt => exact X_if_gt he hs hK hJ
    | le => exact X_if_le he hs hK hJ
  | tableswitch d lo hi offs => exact X_switch he hs hJ
  | getfield k => exact X_getfield he hs hK
  | putfield k => exact X_putfield he hs hK
  | newarray k => exact X_newarray he hs hK
  | anewarray k => exact X_anewarray he hs hK
  | ireturn => exact X_ireturn he hs
  | lreturn => exact X_lreturn he hs
  | dreturn => exact X_dreturn he hs
  | return_ => exact X_return he hs
  | new k =>
    by_cases hc : a1 < 100
    · exact X_newO hc he hs hK
    · obtain ⟨j, rfl⟩ : ∃ j, a1 = 100 + j := ⟨a1 - 100, by omega⟩
      exact X_throw he hs
  | invokevirtual k =>
    cases S with
    | none => exact False.elim hs
    | some S =>
      obtain ⟨hd, hl, hk, hw⟩ := he
      cases (show len = 3 from hl)
      exact X_call hTb hd (Or.inl ⟨hk, rfl⟩) hw hs hK hJ
  | invokestatic k =>
    cases S with
    | none =>
      have hs' := hs
      match a2, he, hs with
      | 10, he, hs => exact X_abs he hs hK
      | 11, he, hs => exact X_max he hs hK
      | 12, he, hs => exact X_min he hs hK
      | 13, he, hs => exact X_copy he hs hK
      | 14, he, hs => exact X_raw he hs hK
      | 0, _, hs => exact False.elim hs
      | 1, _, hs => exact False.elim hs
      | 2, _, hs => exact False.elim hs
      | 3, _, hs => exact False.elim hs
      | 4, _, hs => exact False.elim hs
      | 5, _, hs => exact False.elim hs
      | 6, _, hs => exact False.elim hs
      | 7, _, hs => exact False.elim hs
      | 8, _, hs => exact False.elim hs
      | 9, _, hs => exact False.elim hs
      | n + 15, _, hs => exact False.elim hs
    | some S =>
      obtain ⟨hd, hl, hk, hw⟩ := he
      cases (show len = 3 from hl)
      exact X_call hTb hd (Or.inr (Or.inl ⟨hk, rfl⟩)) hw hs hK hJ
  | invokespecial k =>
    cases S with
    | none => exact X_init0 he hs hK
    | some S =>
      obtain ⟨hd, hl, hk, hw⟩ := he
      cases (show len = 3 from hl)
      exact X_call hTb hd (Or.inr (Or.inr ⟨hk, rfl⟩)) hw hs hK hJ
  | _ => exact False.elim hs
theorem X_vc (hTb : amTab M) : ∀ (l : List amE) (pc : Nat), amOkL M pc l → ∀ (ls : List (Option amV)) (sk : List amV) (h : amH), amVc G M Q (X G M Q) l ls sk h → X G M Q pc ls sk h := by
  intro l
  induction l with
  | nil => intro _ _ _ _ _ h; exact h.elim
  | cons e l ih =>
    intro pc hl ls sk h hv
    obtain ⟨e1, he, hl2⟩ := hl
    subst e1
    exact X_stepE hTb he hv (fun ls sk h hk => ih _ hl2 ls sk h hk) (fun _ _ _ _ q => q)
/-- A BLOCK -/
theorem X_go (hM : amOkM M) {t : Nat} {l : List amE} {ls : List (Option amV)} {sk : List amV} {h : amH} (hl : M.2.2.lookup t = some l) (hv : amVc G M Q (X G M Q) l ls sk h) : X G M Q t ls sk h := X_vc hM.1 l t (hM.2.2.2 t l hl) ls sk h hv
def amFlat (as : List amV) : List (Option amV) := as.flatMap (fun v => match amCat v with
  | 2 => [some v, none]
  | _ => [some v])
/-- the locals at a method's entry -/
def amEntry (n : Nat) (as : List amV) : List (Option amV) := amFlat as ++ List.replicate (n - (amFlat as).length) none
theorem amCat_or (v : amV) : amCat v = 1 ∨ amCat v = 2 := by
  rcases v with _ | _ | _ | _ | _ <;> simp [amCat]
theorem amFlat_cons (v : amV) (as : List amV) : amFlat (v :: as) = (if amCat v = 2 then [some v, none] else [some v]) ++ amFlat as := by
  unfold amFlat
  rw [List.flatMap_cons]
  rcases amCat_or v with h | h <;> simp [h]
theorem amGet_none (n i : Nat) : amGet (List.replicate n none) i = none := by
  induction n generalizing i with
  | zero => rfl
  | succ n ih => cases i with
    | zero => rfl
    | succ i => exact ih i
theorem amFlat_get (B : Nat) (n : Nat) : ∀ (as : List amV) (k i : Nat) (v : amV), amGet (amFlat as ++ List.replicate n none) i = some v → v ∈ as ∧ (k + i, amRv B v) ∈ lv_args k (as.map (amRv B)) := by
  intro as
  induction as with
  | nil => intro k i v h; rw [show amFlat [] = [] from rfl, List.nil_append, amGet_none] at h; cases h
  | cons a as ih =>
    intro k i v h
    rw [amFlat_cons] at h
    show _ ∧ _ ∈ (k, amRv B a) :: lv_args (if (amRv B a).category = 2 then k + 2 else k + 1) (as.map (amRv B))
    rw [amCat_r]
    rcases amCat_or a with hc | hc
    · rw [hc] at h ⊢
      rw [if_neg (by decide)] at h ⊢
      cases i with
      | zero => cases h; exact ⟨List.mem_cons_self, List.mem_cons_self⟩
      | succ i =>
        obtain ⟨h1, h2⟩ := ih (k + 1) i v h
        exact ⟨List.mem_cons_of_mem _ h1, List.mem_cons_of_mem _ (by rw [show k + (i + 1) = k + 1 + i by omega]; exact h2)⟩
    · rw [hc] at h ⊢
      rw [if_pos rfl] at h ⊢
      match i, h with
      | 0, h => cases h; exact ⟨List.mem_cons_self, List.mem_cons_self⟩
      | 1, h => cases h
      | i + 2, h =>
        obtain ⟨h1, h2⟩ := ih (k + 2) i v h
        exact ⟨List.mem_cons_of_mem _ h1, List.mem_cons_of_mem _ (by rw [show k + (i + 2) = k + 2 + i by omega]; exact h2)⟩
theorem amFlat_len (B : Nat) : ∀ as : List amV, (lg_sl (as.map (amRv B))).length = (amFlat as).length := by
  intro as
  induction as with
  | nil => rfl
  | cons a as ih =>
    rw [amFlat_cons, List.map_cons]
    show (lg_sl ([amRv B a] ++ as.map (amRv B))).length = _
    unfold lg_sl at ih ⊢
    rw [List.flatMap_append, List.length_append, List.length_append, ih, List.flatMap_cons, List.flatMap_nil, List.append_nil, amCat_r]
    rcases amCat_or a with hc | hc <;> simp [hc]
/-- A METHOD: its contract out of its body -/
theorem CT_of (hM : amOkM M) (hG : amG0 G) {as : List amV} {h : amH} (hn : (amFlat as).length ≤ sm M.1) (hx : X G M Q 0 (amEntry (sm M.1) as) [] (hGive h (sc M.1) (st M.1))) : CT G M.1 as h Q := by
  unfold CT
  obtain ⟨hTb, hpl, hcl, -⟩ := hM
  have body : ∀ (hc : Jvm.Cond) (p : Program) (e : Env) (s : State) (m : MethodId) (args : Array Value) (below : List Frame) (meth : Method) (c : Code) (s₁ : State), BodyLoose p (gl G) (sy M.1) (headSpec [hc] { frames := sf M.1, cells := sc M.1, slots := st M.1, locals := sl M.1 }) (sb M.1) (sm M.1) (sr M.1) e s m args below meth c s₁ → c.maxLocals = sm M.1 → c.exceptionTable.toList.map (fun x => (x.startPc, x.endPc, x.handlerPc, x.catchType)) = sh M.1 → amPc G as (hGive h (sc M.1) (st M.1)) args s →
      W p (gl G) e (headSpec [hc] { frames := sf M.1, cells := sc M.1, slots := st M.1, locals := sl M.1 }).room s m args below meth c s.heap [] 0 0 (vx_MQ below (amQ G Q) (amXC G Q) args s (sc M.1) (st M.1) (fun q => gB G ≤ q)) (entryFrame m args (sm M.1)) := by
    intro hc p e s m args below meth c s₁ B hml htab hp
    obtain ⟨rfl, hok, hW, hrel⟩ := hp
    have hl := lv_entry (as.map (amRv (gB G))) (n := sm M.1) (by rw [amFlat_len]; exact hn)
    rw [lg_entry_eq]
    generalize (lg_sl (as.map (amRv (gB G))) ++ List.replicate (sm M.1 - (lg_sl (as.map (amRv (gB G)))).length) Slot.unset).toArray = LS at hl ⊢
    have hls : amLs (gB G) (sm M.1) (amEntry (sm M.1) as) LS := by
      refine ⟨hl.1, hl.2.1, ?_, fun i v hv => ?_⟩
      · unfold amEntry
        rw [List.length_append, List.length_replicate]; omega
      · obtain ⟨h1, h2⟩ := amFlat_get (gB G) _ as 0 i v hv
        rw [Nat.zero_add] at h2
        exact ⟨hl.2.2 _ h2, hok v h1⟩
    have hown : s.vm.findClass M.2.1 = some m.cls := by rw [← hcl]; exact findClass_of_methodNamed B.named
    exact hx p e _ s m _ below meth c _ s.heap [] 0 0 LS ⟨hG, ⟨B.exec, B.bytes, hml, B.returns, B.notSynchronized, hown, hW, Nat.le_trans (Nat.le_add_right _ _) hrel.2.2.2.1, htab, Nat.le_refl _, Nat.le_refl _, fun q => by rw [← q]; exact (name_of_methodNamed B.named B.method).1, hrel.2.2.1⟩, Or.inl rfl, hrel, Nat.le_refl _, fun _ q => absurd q List.not_mem_nil, Nat.zero_add _, Nat.zero_add _, hls, fun _ q => absurd q List.not_mem_nil⟩
  cases hsh : sh M.1 with
  | nil =>
    have ecode : amCode M.1 = .code (sy M.1) (sb M.1) (sm M.1) (sr M.1) := by unfold amCode; rw [hsh]
    rw [ecode]
    refine vx_ofW hpl rfl (fun p e s m args below meth c s₁ B hml ht hp => body _ p e s m args below meth c s₁ B hml ?_ hp)
    rw [hsh]
    have : c.exceptionTable.toList = [] := List.eq_nil_iff_forall_not_mem.mpr ht
    rw [this]; rfl
  | cons x0 xs =>
    have ecode : amCode M.1 = .codeWith (sy M.1) (sb M.1) (sm M.1) (sr M.1) (sh M.1) := by unfold amCode; rw [hsh]
    rw [ecode]
    refine vx_ofWH hpl rfl (fun p e s m args below meth c s₁ B hml hp => body _ p e s m args below meth c s₁ B hml ?_ hp)
    have hw : (Cond.codeWith (sy M.1) (sb M.1) (sm M.1) (sr M.1) (sh M.1)).before args s = true := atoms_spec (ws := [Cond.codeWith (sy M.1) (sb M.1) (sm M.1) (sr M.1) (sh M.1)]) B.pre _ List.mem_cons_self
    rw [vx_table (x := sy M.1) B hw]
    unfold tableOf
    rw [List.map_map]
    exact (List.map_congr_left (fun q _ => rfl)).trans (List.map_id _)
end Laws9
