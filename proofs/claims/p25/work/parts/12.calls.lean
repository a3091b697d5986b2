/-! ===== the rows of the abstract machine: calls by their kinds, copies; the judgement's laws ===== -/
theorem amRecv_of {h : amH} {ci : Nat} {as : List amV} (hr : amRecv h ci as) : ∃ (b : Nat) (as' : List amV), as = aR (some b) :: as' ∧ (hS h)[b]? = some (ci, 0) := by
  rcases as with _ | ⟨_ | (_ | b) | _ | _ | _, as'⟩ <;> first | exact absurd hr id | exact ⟨b, as', rfl, hr⟩
theorem amSelf_of {as : List amV} (hr : amSelf as) : ∃ (b : Nat) (as' : List amV), as = aR (some b) :: as' := by
  rcases as with _ | ⟨_ | (_ | b) | _ | _ | _, as'⟩ <;> first | exact absurd hr id | exact ⟨b, as', rfl⟩
section HeapRows
variable {G : amG} {M : amM} {Q : amR → amH → Prop} {p : Program} {e : Env} {R : Room} {s : State} {m : MethodId} {args : Array Value} {below : List Frame} {meth : Method} {c : Code} {Z : State → Prop} {H : Heap} {locs : List Loc} {cells slots : Nat} {LS : Array Slot} {ls : List (Option amV)} {sk : List amV} {h : amH}
variable {K : amK1} {J : amJ1} {pc len : Nat} {aux : Nat × Nat × Nat} {S : Option amS}
theorem am_cw (A : amA G M Q p e R s m args below meth c Z H locs cells slots LS ls sk h) {w : Jvm.Cond} (hw : w ∈ lw_tbl) (hg : goodWord w = true) : ∀ w' ∈ [w], ∀ (a' : Array Value) (U : State), s.WarmedH U.vm → w'.before a' U = true := fun w' hw' a' U hU => by
  cases List.mem_singleton.mp hw'
  exact word_at hU (good_of_word hg) (A.w hw hg args)
theorem am_pre (A : amA G M Q p e R s m args below meth c Z H locs cells slots LS ls sk h) (as : List amV) (hok : ∀ v ∈ as, amOk v) (cc tt : Nat) : ∀ U : State, U.heap = H → s.WarmedH U.vm → amPc G as (hGive h cc tt) (as.map (amRv (gB G))).toArray U :=
  fun U hU hW => ⟨rfl, hok, State.WarmedH.trans A.hW hW, by rw [hU]; exact A.rel.give cc tt⟩
theorem am_split {as r : List amV} (A : amA G M Q p e R s m args below meth c Z H locs cells slots LS ls (as.reverse ++ r) h) : (∀ v ∈ as, amOk v) ∧ amA G M Q p e R s m args below meth c Z H locs cells slots LS ls r h :=
  ⟨fun v hv => A.ok v (List.mem_append_left _ (List.mem_reverse.mpr hv)), A.to (fun v hv => A.ok v (List.mem_append_right _ hv))⟩
theorem X_call {ig : Instr} {idx n ci kind : Nat} {S : amS} (hTb : amTab M) (hd : decode (sb M.1) pc = .ok (ig, 3)) (hig : ((kind = 0) ∧ ig = .invokevirtual idx) ∨ ((kind = 1 ∨ kind = 4) ∧ ig = .invokestatic idx) ∨ ((kind = 2 ∨ kind = 5) ∧ ig = .invokespecial idx)) (hw : amCal M idx ci kind n S)
    (hs : amCall G M Q pc ci kind n S K J ls h (amPop n sk)) (hK : amHK G M Q pc 3 K) (hJ : amHJ G M Q J) : X G M Q pc ls sk h := by
  cases hp : amPop n sk with
  | none => rw [hp] at hs; exact hs.elim
  | some q =>
    obtain ⟨as, r⟩ := q
    rw [hp] at hs
    obtain ⟨⟨hc, ht, hw8⟩, hrecv, hct⟩ := (id hs : _ ∧ _ ∧ _)
    obtain ⟨hsk, hlen⟩ := amPop_of _ _ _ _ hp
    subst hsk
    obtain ⟨⟨wc, gc⟩, wi, hcls, ⟨hf1, hf2⟩, hkd⟩ := hw
    intro p e R s m args below meth c Z H locs cells slots LS A0
    obtain ⟨hok, A⟩ := am_split A0
    have hfr := A.fR
    have e1 : cells + hC h = R.cells := A.2.2.2.2.2.2.1
    have e2 : slots + hT h = R.slots := A.2.2.2.2.2.2.2.1
    have hw9 := am_w8 (B := gB G) hw8
    have hst : (as.reverse ++ r).map (amRv (gB G)) = (as.map (amRv (gB G))).reverse ++ r.map (amRv (gB G)) := by rw [List.map_append, List.map_reverse]
    have hcf : CallFix p m c (sb M.1) (sm M.1) s args lw_tbl M.2.1 → True := fun _ => trivial
    have hml : c.maxLocals = sm M.1 := A.2.1.2.2.1
    have hLS : LS.size = sm M.1 := A.hl.1
    have hpre := am_pre A as hok (sc S) (st S)
    have hbl := amPc_blind G as (hGive h (sc S) (st S))
    have hcw := am_cw A wc gc
    have hfix : CallFix p m c (sb M.1) (sm M.1) s args [] M.2.1 := ⟨A.hx, A.hb, hml, A.hown, fun _ h => absurd h List.not_mem_nil⟩
    have hroom : cells + sc S ≤ R.cells ∧ slots + st S ≤ R.slots := ⟨by omega, by omega⟩
    have hmr : 2 * (F0 m pc LS ((as.reverse ++ r).map (amRv (gB G)))).monitorRoom + ((r.map (amRv (gB G))).map fun v => v.category).sum ≤ 8 := lv_room hw9
    have wc1 := A.w wc gc args
    have wi1 := A.w wi rfl args
    rcases hig with ⟨rfl, rfl⟩ | ⟨hk, rfl⟩ | ⟨hk, rfl⟩
    · obtain ⟨⟨C, T, N, hcl, hyc⟩, w1, w2, w3, hn, hh0⟩ := hkd
      have ecode : amCode S = .code (sy S) (sb S) (sm S) (sr S) := by unfold amCode; rw [hh0]
      rw [ecode] at hcw wc1
      have hct' := hct
      unfold CT at hct'
      rw [ecode] at hct'
      obtain ⟨b, as', ea, hrecv⟩ := amRecv_of (show amRecv h ci as from hrecv)
      subst ea
      have hcc := (amCls ci C T N hcl).1
      have ev := amWs_at (B := gB G) (cA := gA G) hrecv
      rw [show amCell (gB G) (gA G) h b (ci, 0) = .inr (ci, amFs (gB G) h ci b) from if_pos hcc] at ev
      refine am_after hTb A hc ht (a := ((Value.ref (gB G + b)) :: as'.map (amRv (gB G))).toArray) (vx_runV (C := C) (n := n - 1) hfix hct' ⟨⟨rfl, rfl, by show sf S + 1 ≤ _; omega, by show 8 + (sm S + 11) + sl S ≤ _; omega, hcw, List.mem_singleton.mpr rfl, wc1, wi1, hcls, fun sig hsig => ?_, A.w w1 rfl args⟩, A.w w2 rfl args, by rw [← hyc]; exact A.w w3 rfl args⟩ ⟨hbl, va_recv A.k A.rel.1 (ci := ci) (q0 := b) hcl ev, hpre⟩ rfl ?_ hLS (hst.trans (by rw [List.map_cons, List.reverse_cons, List.append_assoc]; rfl)) hmr hd hroom) hK hJ
      · rw [hsig] at hn
        have : sig.parameters.length + 1 = n := Option.some.inj hn
        omega
      · have : as'.length + 1 = n := hlen
        rw [List.length_map]; omega
    · rcases hk with rfl | rfl
      · obtain ⟨w1, w2, hn⟩ := hkd
        have hn' : ∀ sig, parseMethodDescriptor (sy S).desc = some sig → n = sig.parameters.length := fun sig hsig => by
          rw [hsig] at hn
          exact (Option.some.inj hn).symm
        have hct' := hct
        unfold CT at hct'
        cases hh0 : sh S with
        | nil =>
          have ecode : amCode S = .code (sy S) (sb S) (sm S) (sr S) := by unfold amCode; rw [hh0]
          rw [ecode] at hcw wc1 hct'
          exact am_after hTb A hc ht (vx_runS (n := n) hfix hct' ⟨⟨rfl, rfl, by show sf S + 1 ≤ _; omega, by show 8 + (sm S + 11) + sl S ≤ _; omega, hcw, List.mem_singleton.mpr rfl, wc1, wi1, hcls, hn', A.w w1 rfl args⟩, A.w w2 rfl args⟩ ⟨hbl, hpre⟩ rfl (by rw [List.length_map]; exact hlen) hLS hst hmr hd hroom) hK hJ
        | cons x0 xs =>
          have ecode : amCode S = .codeWith (sy S) (sb S) (sm S) (sr S) (x0 :: xs) := by unfold amCode; rw [hh0]
          rw [ecode] at hcw wc1 hct'
          exact am_after hTb A hc ht (vx_runSX (n := n) hfix hct' ⟨⟨rfl, rfl, by show sf S + 1 ≤ _; omega, by show 8 + (sm S + 11) + sl S ≤ _; omega, hcw, List.mem_singleton.mpr rfl⟩, wc1, wi1, hcls, hn', A.w w1 rfl args, A.w w2 rfl args⟩ ⟨hbl, hpre⟩ rfl (by rw [List.length_map]; exact hlen) hLS hst hmr hd hroom) hK hJ
      · obtain ⟨⟨hs0, w1⟩, w2, hn, hh0⟩ := hkd
        have hn' : ∀ sig, parseMethodDescriptor (sy S).desc = some sig → n = sig.parameters.length := fun sig hsig => by
          rw [hsig] at hn
          exact (Option.some.inj hn).symm
        have hct' := hct
        unfold CT at hct'
        have ecode : amCode S = .code (sy S) (sb S) (sm S) (sr S) := by unfold amCode; rw [hh0]
        rw [ecode] at hcw wc1 hct'
        have wn : (Cond.methodLinkNest M.2.1 idx (sy S) hs0).before args s = true := va_Nw.use rfl (va_Nw.warmM A.hW (va_Nw.of rfl (A.1.2.1 _ w1)))
        exact am_after hTb A hc ht (vx_runSN (n := n) hfix hct' ⟨⟨⟨rfl, rfl, by show sf S + 1 ≤ _; omega, by show 8 + (sm S + 11) + sl S ≤ _; omega, hcw, List.mem_singleton.mpr rfl⟩, wc1, wi1, hcls, hn', wn⟩, A.w w2 rfl args, trivial⟩ ⟨hbl, hpre⟩ rfl (by rw [List.length_map]; exact hlen) hLS hst hmr hd hroom) hK hJ
    · have hself : amSelf as := by
        rcases hk with rfl | rfl
        · exact hrecv
        · exact hrecv
      obtain ⟨b, as', ea⟩ := amSelf_of hself
      subst ea
      rcases hk with rfl | rfl
      · obtain ⟨w1, w2, hin, hr0, hn, hh0⟩ := hkd
        have hct' := hct
        unfold CT at hct'
        have ecode : amCode S = .code (sy S) (sb S) (sm S) none := by unfold amCode; rw [hh0, hr0]
        rw [ecode] at hcw wc1 hct'
        refine am_after hTb A hc ht (vx_runI (n := n - 1) hfix hct' ⟨⟨rfl, rfl, by show sf S + 1 ≤ _; omega, by show 8 + (sm S + 11) + sl S ≤ _; omega, hcw, List.mem_singleton.mpr rfl, wc1, wi1, hcls, fun sig hsig => ?_, A.w w1 rfl args⟩, hin, A.w w2 rfl args⟩ ⟨hbl, hpre⟩ rfl ?_ hLS (hst.trans (by rw [List.map_cons, List.reverse_cons, List.append_assoc]; rfl)) hmr hd hroom) hK hJ
        · rw [hsig] at hn
          have : sig.parameters.length + 1 = n := Option.some.inj hn
          omega
        · have : as'.length + 1 = n := hlen
          rw [List.length_map]; omega
      · obtain ⟨⟨hs0, w1⟩, w2, hin, hr0, hn, hh0⟩ := hkd
        have hct' := hct
        unfold CT at hct'
        have ecode : amCode S = .code (sy S) (sb S) (sm S) none := by unfold amCode; rw [hh0, hr0]
        rw [ecode] at hcw wc1 hct'
        have wn : (Cond.methodLinkNest M.2.1 idx (sy S) hs0).before args s = true := va_Nw.use rfl (va_Nw.warmM A.hW (va_Nw.of rfl (A.1.2.1 _ w1)))
        refine am_after hTb A hc ht (vx_runIN (n := n - 1) hfix hct' ⟨⟨⟨rfl, rfl, by show sf S + 1 ≤ _; omega, by show 8 + (sm S + 11) + sl S ≤ _; omega, hcw, List.mem_singleton.mpr rfl⟩, wc1, wi1, hcls, fun sig hsig => ?_, wn⟩, hin, A.w w2 rfl args⟩ ⟨hbl, hpre⟩ rfl ?_ hLS (hst.trans (by rw [List.map_cons, List.reverse_cons, List.append_assoc]; rfl)) hmr hd hroom) hK hJ
        · rw [hsig] at hn
          have : sig.parameters.length + 1 = n := Option.some.inj hn
          omega
        · have : as'.length + 1 = n := hlen
          rw [List.length_map]; omega
/-- a copy from row to row, with the heap behind it: no cell is new -/
theorem am_copyW {l : Launch} {idx a0 a1 n0 n1 : Nat} {f g : Nat → Int32} {sp dp n : Int32} {rest : List Value} {own : String} {cI cm : ClassId} {kI kJ : Class} (hx : p.tables.exec = Jvm.exec) (hb : c.code = sb M.1) (hml : c.maxLocals = LS.size) (hown : s.vm.findClass own = some m.cls) (w1 : (Cond.methodLink own idx arraycopyName).before args s = true) (w2 : (Cond.native arraycopyName).before args s = true) (w3 : (Cond.static arraycopyName).before args s = true) (w4 : (Cond.initialized "java/lang/System").before args s = true)
    {cn : ClassId} (hk : s.vm.classes[cI]? = some kI) (hkk : kI.kind = .array cm .int) (hk' : s.vm.classes[cI]? = some kJ) (hkk' : kJ.kind = .array cn .int) (hc0 : H[a0]? = some (vp_cell cI (n0, .inl f))) (hc1 : H[a1]? = some (vp_cell cI (n1, .inl g))) (h1 : ¬ sp < 0) (h2 : ¬ dp < 0) (h3 : ¬ n < 0) (h4 : sp.toNatClampNeg + n.toNatClampNeg ≤ n0) (h5 : dp.toNatClampNeg + n.toNatClampNeg ≤ n1) (hfr : 1 ≤ R.frames) (hlo : (rest.map fun v => v.category).sum + (nativeFrameWords "java/lang/System" "arraycopy" 5 + 11) ≤ R.locals) (hd : decode (sb M.1) pc = .ok (.invokestatic idx, 3))
    (k : ∀ locs1 : List Loc, (∀ z ∈ locs1, z ∈ locs ∨ z.base = a1) → W p l e R s m args below meth c (H.setIfInBounds a1 (vp_cell cI (n1, .inl (va_cpy f g sp.toNatClampNeg dp.toNatClampNeg n.toNatClampNeg)))) locs1 cells slots Z (F0 m (pc + 3) LS rest)) : W p l e R s m args below meth c H locs cells slots Z (F0 m pc LS (.int n :: .int dp :: .ref a1 :: .int sp :: .ref a0 :: rest)) := by
  have hi : ∀ z : Int32, ¬ z < 0 → z.toInt = (z.toNatClampNeg : Int) := fun z hz => (toNatClampNeg_of_not_neg32 z hz).symm
  have hrd : ∀ i : Nat, i < n.toNatClampNeg → (vp_cell cI (n0, .inl f)).slots.getD (sp.toNatClampNeg + i) .null = .int (f (sp.toNatClampNeg + i)) := fun i h => by
    show (arrV cI n0 (fun j => Value.int (f j))).slots.getD _ _ = _
    rw [Array.getD_eq_getD_getElem?, arrV_read _ _ (by omega)]
    rfl
  have hcp : copied (vp_cell cI (n0, .inl f)) (vp_cell cI (n1, .inl g)) sp dp n = vp_cell cI (n1, .inl (va_cpy f g sp.toNatClampNeg dp.toNatClampNeg n.toNatClampNeg)) := va_copied (fun z => Value.int z) cI cI f g h4
  intro T hT X
  subst hT
  obtain ⟨vm', X1, st⟩ := X.arraycopy hx hown w1 w2 w3 w4 hc0 hc1 (fun _ q => by cases q) (fun _ q => by cases q) (fun q => by cases q) (fun q => by cases q) hk hk' hkk hkk' (by decide) h1 h2 h3
    (by rw [hi _ h1, hi _ h3]; show ¬ _ > ((arrV cI n0 (fun j => Value.int (f j))).slots.size : Int); rw [arrV_size]; omega)
    (by rw [hi _ h2, hi _ h3]; show ¬ _ > ((arrV cI n1 (fun j => Value.int (g j))).slots.size : Int); rw [arrV_size]; omega)
    (fun _ _ i h => by rw [hrd i h]; exact ⟨rfl, trivial⟩)
    (g := F0 m pc LS (.int n :: .int dp :: .ref a1 :: .int sp :: .ref a0 :: rest)) rfl hml.symm (rest := rest) rfl (by rw [hb]; exact hd) hfr (by show 2 * 0 + _ + _ ≤ _; omega)
  rw [hcp] at X1 st
  obtain ⟨t, b1, b2⟩ := k _ (fun z hz => (List.mem_append.mp hz).elim Or.inl (fun q => Or.inr (by
    obtain ⟨y, -, hy⟩ := List.mem_map.mp q
    rw [← hy]))) _ rfl X1
  exact ⟨t, st t b1, b2⟩
theorem X_copy {idx a1 a3 : Nat} (he : amOkE M (pc, .invokestatic idx, len, (a1, 13, a3), none)) (hs : amStep G M Q (pc, .invokestatic idx, len, (a1, 13, a3), none) K J ls sk h) (hK : amHK G M Q pc len K) : X G M Q pc ls sk h := by
  obtain ⟨hd, hl, ⟨b1, b2⟩, w1, w2, w3, w4⟩ := he
  cases (show len = 3 from hl)
  intro p e R s m args below meth c Z H locs cells slots LS A
  have hf := A.fR
  have hs : amCopy h (fun r h => K ls r h) sk := hs
  revert hs A
  rcases sk with _ | ⟨n | _ | _ | _ | _, _ | ⟨dp | _ | _ | _ | _, _ | ⟨_ | (_ | b) | _ | _ | _, _ | ⟨sp | _ | _ | _ | _, _ | ⟨_ | (_ | a) | _ | _ | _, r⟩⟩⟩⟩⟩ <;> first | exact fun _ q => q.elim | skip
  intro A hs
  obtain ⟨n0, n1, h0, h1, ⟨g1, g2, g3, g4, g5, g7, g8, g6⟩, hk⟩ := (id hs : ∃ _, _)
  have hw := am_w8 (B := gB G) g6
  have on : amIn n := am_hd A.ok
  have od : amIn dp := am_hd (am_tl A.ok)
  have os : amIn sp := am_hd (am_tl (am_tl (am_tl A.ok)))
  have en := amI_cl g1 on.2
  have ed := amI_cl g3 od.2
  have es := amI_cl g2 os.2
  have nn : ∀ z : Int, amIn z → 0 ≤ z → ¬ Int32.ofInt z < 0 := fun z hz h q => by
    rw [← amI_0, amI_lt hz amIn_0] at q; omega
  have hword : nativeFrameWords "java/lang/System" "arraycopy" 5 ≤ 20 := by decide
  have c0 : H[gB G + a]? = some (vp_cell (gA G 20) (n0, .inl (fun j => Int32.ofInt (hI h a j)))) := A.rel.1 a _ (amWs_at h0)
  have c1 : H[gB G + b]? = some (vp_cell (gA G 20) (n1, .inl (fun j => Int32.ofInt (hI h b j)))) := A.rel.1 b _ (amWs_at h1)
  obtain ⟨-, k0, hk0, cm0, hkk0⟩ := (A.k.2 0 _ (am_ty G 0 (by decide))).1 n0 (fun j => Value.int (Int32.ofInt (hI h a j)))
  obtain ⟨-, k1, hk1, cm1, hkk1⟩ := (A.k.2 0 _ (am_ty G 0 (by decide))).1 n1 (fun j => Value.int (Int32.ofInt (hI h b j)))
  refine am_copyW (cI := gA G 20) A.hx A.hb A.ml A.hown (A.w w1 rfl args) (A.w w2 rfl args) (A.w w3 rfl args) (A.w w4 rfl args) hk0 hkk0 hk1 hkk1 c0 c1 (nn _ os g2) (nn _ od g3) (nn _ on g1) (by rw [en, es]; omega) (by rw [en, ed]; omega) (by omega) (by omega) hd (fun locs1 hl1 => ?_)
  rw [en, ed, es]
  have hlt : gB G + b < H.size := (Array.getElem?_eq_some_iff.mp c1).1
  refine hK _ _ _ hk _ _ _ _ _ _ _ _ _ _ _ _ _ _ _ (A.world (h' := (uCpy h.1 a sp.toNat b dp.toNat n.toNat, h.2.1, h.2.2.1, h.2.2.2.1, h.2.2.2.2.1, h.2.2.2.2.2)) (amRel_set A.rel h1 rfl rfl (fun x y => ?_) (fun j hj s1 => ?_) ?_ (by simp) (fun q hq => ?_)) (Nat.le_of_eq (by simp)) (fun z hz => ?_) A.2.2.2.2.2.2.1 A.2.2.2.2.2.2.2.1 (am_tl (am_tl (am_tl (am_tl (am_tl A.ok))))))
  · show amIn (uCpy _ _ _ _ _ _ x y)
    unfold uCpy
    split
    · exact A.rel.2.1 _ _
    · exact A.rel.2.1 _ _
  · exact amCell_eq (h := h) (h' := (uCpy h.1 a sp.toNat b dp.toNat n.toNat, h.2.1, h.2.2.1, h.2.2.2.1, h.2.2.2.2.1, h.2.2.2.2.2)) (fun y => by show uCpy _ _ _ _ _ _ j y = _; unfold uCpy; rw [if_neg (fun q => hj q.1)]) (fun _ => rfl) (fun _ => rfl) s1
  · show (H.setIfInBounds _ _)[gB G + b]? = some (vp_cell (gA G 20) (n1, .inl _))
    rw [Array.getElem?_setIfInBounds, if_pos rfl, if_pos hlt]
    congr 4
    funext y
    show va_cpy _ _ _ _ _ y = Int32.ofInt (uCpy h.1 a sp.toNat b dp.toNat n.toNat b y)
    unfold va_cpy uCpy
    by_cases hy : dp.toNat ≤ y ∧ y < dp.toNat + n.toNat
    · rw [if_pos hy, if_pos ⟨rfl, hy⟩]
    · rw [if_neg hy, if_neg (fun q => hy q.2)]
  · rw [Array.getElem?_setIfInBounds, if_neg (fun e => hq e.symm)]
  · rcases hl1 z hz with q | q
    · exact A.2.2.2.2.2.1 z q
    · rw [q]; exact Nat.le_add_right _ _
end HeapRows
