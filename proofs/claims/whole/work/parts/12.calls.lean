/-! ===== the rows of the abstract machine: calls by their kinds, copies; the judgement's laws ===== -/
theorem amRecv_of {h : amH} {ci : Nat} {as : List amV} (hr : amRecv h ci as) : ∃ (b : Nat) (as' : List amV), as = aR (some b) :: as' ∧ (hS h)[b]? = some (ci, 0) := by
  rcases as with _ | ⟨_ | (_ | b) | _ | _ | _, as'⟩ <;> first | exact absurd hr id | exact ⟨b, as', rfl, hr⟩
theorem amSelf_of {as : List amV} (hr : amSelf as) : ∃ (b : Nat) (as' : List amV), as = aR (some b) :: as' := by
  rcases as with _ | ⟨_ | (_ | b) | _ | _ | _, as'⟩ <;> first | exact absurd hr id | exact ⟨b, as', rfl⟩
section HeapRows
variable {G : amG} {M : amM} {Q : amR → amH → Prop} {p : Program} {e : Env} {R : Room} {s : State} {m : MethodId} {args : Array Value} {below : List Frame} {meth : Method} {c : Code} {Z : State → Prop} {H : Heap} {locs : List Loc} {cells slots : Nat} {LS : Array Slot} {ls : List (Option amV)} {sk : List amV} {h : amH}
variable {K : amK1} {J : amJ1} {pc len : Nat} {aux : Nat × Nat × Nat} {S : Option amS}
theorem am_cw (A : amA G M Q p e R s m args below meth c Z H locs cells slots LS ls sk h) {w : Jvm.Cond} (hw : w ∈ lw_tbl) (hg : goodWord w = true) : ∀ w' ∈ [w], ∀ (a' : Array Value) (U : State), s.WarmedH U.vm → w'.before a' U = true := fun w' hw' a' U hU => by
  cases List.mem_singleton.mp hw'
  exact word_at hU (good_of_word hg) (A.w hw hg args)
theorem am_pre (A : amA G M Q p e R s m args below meth c Z H locs cells slots LS ls sk h) (as : List amV) (hok : ∀ v ∈ as, amOk v) (cc tt : Nat) : ∀ U : State, U.heap = H → s.WarmedH U.vm → amPc G as (hGive h cc tt) (as.map (amRv (gB G))).toArray U :=
  fun U hU hW => ⟨rfl, hok, State.WarmedH.trans A.hW hW, by rw [hU]; exact A.rel.give cc tt⟩
theorem am_split {as r : List amV} (A : amA G M Q p e R s m args below meth c Z H locs cells slots LS ls (as.reverse ++ r) h) : (∀ v ∈ as, amOk v) ∧ amA G M Q p e R s m args below meth c Z H locs cells slots LS ls r h :=
  ⟨fun v hv => A.ok v (List.mem_append_left _ (List.mem_reverse.mpr hv)), A.to (fun v hv => A.ok v (List.mem_append_right _ hv))⟩
theorem X_call {ig : Instr} {idx n ci kind : Nat} {S : amS} (hTb : amTab M) (hd : decode (sb M.1) pc = .ok (ig, 3)) (hig : ((kind = 0) ∧ ig = .invokevirtual idx) ∨ ((kind = 1 ∨ kind = 4) ∧ ig = .invokestatic idx) ∨ ((kind = 2 ∨ kind = 5) ∧ ig = .invokespecial idx)) (hw : amCal M idx ci kind n S)
    (hs : amCall G M Q pc ci kind n S K J ls h (amPop n sk)) (hK : amHK G M Q pc 3 K) (hJ : amHJ G M Q J) : X G M Q pc ls sk h := by
  cases hp : amPop n sk with
  | none => rw [hp] at hs; exact hs.elim
  | some q =>
    obtain ⟨as, r⟩ := q
    rw [hp] at hs
    obtain ⟨⟨hc, ht, hw8⟩, hrecv, hct⟩ := (id hs : _ ∧ _ ∧ _)
    obtain ⟨hsk, hlen⟩ := amPop_of _ _ _ _ hp
    subst hsk
    obtain ⟨⟨wc, gc⟩, wi, hcls, ⟨hf1, hf2⟩, hkd⟩ := hw
    intro p e R s m args below meth c Z H locs cells slots LS A0
    obtain ⟨hok, A⟩ := am_split A0
    have hfr := A.fR
    have e1 : cells + hC h = R.cells := A.2.2.2.2.2.2.1
    have e2 : slots + hT h = R.slots := A.2.2.2.2.2.2.2.1
    have hw9 := am_w8 (B := gB G) hw8
    have hst : (as.reverse ++ r).map (amRv (gB G)) = (as.map (amRv (gB G))).reverse ++ r.map (amRv (gB G)) := by rw [List.map_append, List.map_reverse]
    have hcf : CallFix p m c (sb M.1) (sm M.1) s args lw_tbl M.2.1 → True := fun _ => trivial
    have hml : c.maxLocals = sm M.1 := A.2.1.2.2.1
    have hLS : LS.size = sm M.1 := A.hl.1
    have hpre := am_pre A as hok (sc S) (st S)
    have hbl := amPc_blind G as (hGive h (sc S) (st S))
    have hcw := am_cw A wc gc
    have hfix : CallFix p m c (sb M.1) (sm M.1) s args [] M.2.1 := ⟨A.hx, A.hb, hml, A.hown, fun _ h => absurd h List.not_mem_nil⟩
    have hroom : cells + sc S ≤ R.cells ∧ slots + st S ≤ R.slots := ⟨by omega, by omega⟩
    have hmr : 2 * (F0 m pc LS ((as.reverse ++ r).map (amRv (gB G)))).monitorRoom + ((r.map (amRv (gB G))).map fun v => v.category).sum ≤ 8 := lv_room hw9
    have wc1 := A.w wc gc args
    have wi1 := A.w wi rfl args
    rcases hig with ⟨rfl, rfl⟩ | ⟨hk, rfl⟩ | ⟨hk, rfl⟩
    · obtain ⟨⟨C, T, N, hcl, hyc⟩, w1, w2, w3, hn, hh0⟩ := hkd
      have ecode : amCode S = .code (sy S) (sb S) (sm S) (sr S) := by unfold amCode; rw [hh0]
      rw [ecode] at hcw wc1
      have hct' := hct
      unfold CT at hct'
      rw [ecode] at hct'
      obtain ⟨b, as', ea, hrecv⟩ := amRecv_of (show amRecv h ci as from hrecv)
      subst ea
      have hcc := (amCls ci C T N hcl).1
      have ev := amWs_at (B := gB G) (cA := gA G) hrecv
      rw [show amCell (gB G) (gA G) h b (ci, 0) = .inr (ci, amFs (gB G) h ci b) from if_pos hcc] at ev
      refine am_after hTb A hc ht (a := ((Value.ref (gB G + b)) :: as'.map (amRv (gB G))).toArray) (vx_runV (C := C) (n := n - 1) hfix hct' ⟨⟨rfl, rfl, by show sf S + 1 ≤ _; omega, by show 8 + (sm S + 11) + sl S ≤ _; omega, hcw, List.mem_singleton.mpr rfl, wc1, wi1, hcls, fun sig hsig => ?_, A.w w1 rfl args⟩, A.w w2 rfl args, by rw [← hyc]; exact A.w w3 rfl args⟩ ⟨hbl, va_recv A.k A.rel.1 (ci := ci) (q0 := b) hcl ev, hpre⟩ rfl ?_ hLS (hst.trans (by rw [List.map_cons, List.reverse_cons, List.append_assoc]; rfl)) hmr hd hroom) hK hJ
      · rw [hsig] at hn
        have : sig.parameters.length + 1 = n := Option.some.inj hn
        omega
      · have : as'.length + 1 = n := hlen
        rw [List.length_map]; omega
    · rcases hk with rfl | rfl
      · obtain ⟨w1, w2, hn⟩ := hkd
        have hn' : ∀ sig, parseMethodDescriptor (sy S).desc = some sig → n = sig.parameters.length := fun sig hsig => by
          rw [hsig] at hn
          exact (Option.some.inj hn).symm
        have hct' := hct
        unfold CT at hct'
        cases hh0 : sh S with
        | nil =>
          have ecode : amCode S = .code (sy S) (sb S) (sm S) (sr S) := by unfold amCode; rw [hh0]
          rw [ecode] at hcw wc1 hct'
          exact am_after hTb A hc ht (vx_runS (n := n) hfix hct' ⟨⟨rfl, rfl, by show sf S + 1 ≤ _; omega, by show 8 + (sm S + 11) + sl S ≤ _; omega, hcw, List.mem_singleton.mpr rfl, wc1, wi1, hcls, hn', A.w w1 rfl args⟩, A.w w2 rfl args⟩ ⟨hbl, hpre⟩ rfl (by rw [List.length_map]; exact hlen) hLS hst hmr hd hroom) hK hJ
        | cons x0 xs =>
          have ecode : amCode S = .codeWith (sy S) (sb S) (sm S) (sr S) (x0 :: xs) := by unfold amCode; rw [hh0]
          rw [ecode] at hcw wc1 hct'
          exact am_after hTb A hc ht (vx_runSX (n := n) hfix hct' ⟨⟨rfl, rfl, by show sf S + 1 ≤ _; omega, by show 8 + (sm S + 11) + sl S ≤ _; omega, hcw, List.mem_singleton.mpr rfl⟩, wc1, wi1, hcls, hn', A.w w1 rfl args, A.w w2 rfl args⟩ ⟨hbl, hpre⟩ rfl (by rw [List.length_map]; exact hlen) hLS hst hmr hd hroom) hK hJ
      · obtain ⟨⟨hs0, w1⟩, w2, hn, hh0⟩ := hkd
        have hn' : ∀ sig, parseMethodDescriptor (sy S).desc = some sig → n = sig.parameters.length := fun sig hsig => by
          rw [hsig] at hn
          exact (Option.some.inj hn).symm
        have hct' := hct
        unfold CT at hct'
        have ecode : amCode S = .code (sy S) (sb S) (sm S) (sr S) := by unfold amCode; rw [hh0]
        rw [ecode] at hcw wc1 hct'
        have wn : (Cond.methodLinkNest M.2.1 idx (sy S) hs0).before args s = true := va_Nw.use rfl (va_Nw.warmM A.hW (va_Nw.of rfl (A.1.2.1 _ w1)))
        exact am_after hTb A hc ht (vx_runSN (n := n) hfix hct' ⟨⟨⟨rfl, rfl, by show sf S + 1 ≤ _; omega, by show 8 + (sm S + 11) + sl S ≤ _; omega, hcw, List.mem_singleton.mpr rfl⟩, wc1, wi1, hcls, hn', wn⟩, A.w w2 rfl args, trivial⟩ ⟨hbl, hpre⟩ rfl (by rw [List.length_map]; exact hlen) hLS hst hmr hd hroom) hK hJ
    · have hself : amSelf as := by
        rcases hk with rfl | rfl
        · exact hrecv
        · exact hrecv
      obtain ⟨b, as', ea⟩ := amSelf_of hself
      subst ea
      rcases hk with rfl | rfl
      · obtain ⟨w1, w2, hin, hr0, hn, hh0⟩ := hkd
        have hct' := hct
        unfold CT at hct'
        have ecode : amCode S = .code (sy S) (sb S) (sm S) none := by unfold amCode; rw [hh0, hr0]
        rw [ecode] at hcw wc1 hct'
        refine am_after hTb A hc ht (vx_runI (n := n - 1) hfix hct' ⟨⟨rfl, rfl, by show sf S + 1 ≤ _; omega, by show 8 + (sm S + 11) + sl S ≤ _; omega, hcw, List.mem_singleton.mpr rfl, wc1, wi1, hcls, fun sig hsig => ?_, A.w w1 rfl args⟩, hin, A.w w2 rfl args⟩ ⟨hbl, hpre⟩ rfl ?_ hLS (hst.trans (by rw [List.map_cons, List.reverse_cons, List.append_assoc]; rfl)) hmr hd hroom) hK hJ
        · rw [hsig] at hn
          have : sig.parameters.length + 1 = n := Option.some.inj hn
          omega
        · have : as'.length + 1 = n := hlen
          rw [List.length_map]; omega
      · obtain ⟨⟨hs0, w1⟩, w2, hin, hr0, hn, hh0⟩ := hkd
        have hct' := hct
        unfold CT at hct'
        have ecode : amCode S = .code (sy S) (sb S) (sm S) none := by unfold amCode; rw [hh0, hr0]
        rw [ecode] at hcw wc1 hct'
        have wn : (Cond.methodLinkNest M.2.1 idx (sy S) hs0).before args s = true := va_Nw.use rfl (va_Nw.warmM A.hW (va_Nw.of rfl (A.1.2.1 _ w1)))
        refine am_after hTb A hc ht (vx_runIN (n := n - 1) hfix hct' ⟨⟨⟨rfl, rfl, by show sf S + 1 ≤ _; omega, by show 8 + (sm S + 11) + sl S ≤ _; omega, hcw, List.mem_singleton.mpr rfl⟩, wc1, wi1, hcls, fun sig hsig => ?_, wn⟩, hin, A.w w2 rfl args⟩ ⟨hbl, hpre⟩ rfl ?_ hLS (hst.trans (by rw [List.map_cons, List.reverse_cons, List.append_assoc]; rfl)) hmr hd hroom) hK hJ
        · rw [hsig] at hn
          have : sig.parameters.length + 1 = n := Option.some.inj hn
          omega
        · have : as'.length + 1 = n := hlen
          rw [List.length_map]; omega
theorem X_copy {idx a1 a3 : Nat} (he : amOkE M (pc, .invokestatic idx, len, (a1, 13, a3), none)) (hs : amStep G M Q (pc, .invokestatic idx, len, (a1, 13, a3), none) K J ls sk h) (hK : amHK G M Q pc len K) : X G M Q pc ls sk h := by
  obtain ⟨hd, hl, ⟨b1, b2⟩, w1, w2, w3, w4⟩ := he
  cases (show len = 3 from hl)
  intro p e R s m args below meth c Z H locs cells slots LS A
  have hf := A.fR
  have hs : amCopy h (fun r h => K ls r h) sk := hs
  revert hs A
  rcases sk with _ | ⟨n | _ | _ | _ | _, _ | ⟨dp | _ | _ | _ | _, _ | ⟨_ | (_ | b) | _ | _ | _, _ | ⟨sp | _ | _ | _ | _, _ | ⟨_ | (_ | a) | _ | _ | _, r⟩⟩⟩⟩⟩ <;> first | exact fun _ q => q.elim | skip
  intro A hs
  obtain ⟨n0, n1, h0, h1, ⟨g1, g2, g3, g4, g5, g7, g8, g6⟩, hk⟩ := (id hs : ∃ _, _)
  have hw := am_w8 (B := gB G) g6
  have on : amIn n := am_hd A.ok
  have od : amIn dp := am_hd (am_tl A.ok)
  have os : amIn sp := am_hd (am_tl (am_tl (am_tl A.ok)))
  have en := amI_cl g1 on.2
  have ed := amI_cl g3 od.2
  have es := amI_cl g2 os.2
  have nn : ∀ z : Int, amIn z → 0 ≤ z → ¬ Int32.ofInt z < 0 := fun z hz h q => by
    rw [← amI_0, amI_lt hz amIn_0] at q; omega
  have hword : nativeFrameWords "java/lang/System" "arraycopy" 5 ≤ 20 := by decide
  refine va_copyi A.hx A.hb A.ml A.hown (A.w w1 rfl args) (A.w w2 rfl args) (A.w w3 rfl args) (A.w w4 rfl args) A.k A.rel.1 (amWs_D _ _ _) A.vs a b 0 0 (amWs_at h0) (amWs_at h1) (am_ty G 0 (by decide)) (am_ty G 0 (by decide)) rfl (nn _ os g2) (nn _ od g3) (nn _ on g1) (by rw [en, es]; omega) (by rw [en, ed]; omega) (fun _ _ => rfl) (by omega) (by omega) hd (fun H1 locs1 hP1 hD1 hS1 => ?_)
  rw [en, ed, es] at hP1
  have hz : H.size ≤ H1.size ∨ True := Or.inr trivial
  have hrel : amRel G (uCpy h.1 a sp.toNat b dp.toNat n.toNat, h.2.1, h.2.2.1, h.2.2.2.1, h.2.2.2.2.1 + 1, h.2.2.2.2.2) H1 := by
    have hws : (amWs (gB G) (gA G) h).set b (gB G + b, .inl (gA G 20, n1, .inl (va_cpy (fun j => Int32.ofInt (hI h a j)) (fun j => Int32.ofInt (hI h b j)) sp.toNat dp.toNat n.toNat))) = amWs (gB G) (gA G) (uCpy h.1 a sp.toNat b dp.toNat n.toNat, h.2.1, h.2.2.1, h.2.2.2.1, h.2.2.2.2.1 + 1, h.2.2.2.2.2) := by
      refine List.ext_getElem? (fun j => ?_)
      by_cases hj : j = b
      · subst hj
        have h1' : (hS ((uCpy h.1 a sp.toNat j dp.toNat n.toNat, h.2.1, h.2.2.1, h.2.2.2.1, h.2.2.2.2.1 + 1, h.2.2.2.2.2) : amH))[j]? = some (20, n1) := h1
        rw [List.getElem?_set_self (List.getElem?_eq_some_iff.mp (amWs_at h1)).1, amWs_at h1']
        show some (gB G + j, (Sum.inl (gA G 20, n1, Sum.inl _) : va_E)) = some (gB G + j, (Sum.inl (gA G 20, n1, Sum.inl _) : va_E))
        congr 6
        funext y
        show va_cpy _ _ _ _ _ y = Int32.ofInt (uCpy h.1 a sp.toNat j dp.toNat n.toNat j y)
        unfold va_cpy uCpy
        by_cases hy : dp.toNat ≤ y ∧ y < dp.toNat + n.toNat
        · rw [if_pos hy, if_pos ⟨rfl, hy⟩]
        · rw [if_neg hy, if_neg (fun q => hy q.2)]
      · rw [List.getElem?_set_ne (Ne.symm hj)]
        cases hq : (hS h)[j]? with
        | none =>
          have e1 : (amWs (gB G) (gA G) h)[j]? = none := by
            cases hw2 : (amWs (gB G) (gA G) h)[j]? with
            | none => rfl
            | some q => obtain ⟨s1, hs1, -⟩ := amWs_inv hw2; rw [hq] at hs1; cases hs1
          rw [e1]
          cases hw2 : (amWs (gB G) (gA G) ((uCpy h.1 a sp.toNat b dp.toNat n.toNat, h.2.1, h.2.2.1, h.2.2.2.1, h.2.2.2.2.1 + 1, h.2.2.2.2.2) : amH))[j]? with
          | none => rfl
          | some q =>
            obtain ⟨s1, hs1, -⟩ := amWs_inv hw2
            have hs1 : (hS h)[j]? = some s1 := hs1
            rw [hq] at hs1; cases hs1
        | some s1 =>
          have hq' : (hS ((uCpy h.1 a sp.toNat b dp.toNat n.toNat, h.2.1, h.2.2.1, h.2.2.2.1, h.2.2.2.2.1 + 1, h.2.2.2.2.2) : amH))[j]? = some s1 := hq
          rw [amWs_at hq, amWs_at hq']
          rw [amCell_eq (h := h) (h' := (uCpy h.1 a sp.toNat b dp.toNat n.toNat, h.2.1, h.2.2.1, h.2.2.2.1, h.2.2.2.2.1 + 1, h.2.2.2.2.2)) (fun y => by show uCpy _ _ _ _ _ _ j y = _; unfold uCpy; rw [if_neg (fun q => hj q.1)]) (fun _ => rfl) (fun _ => rfl)]
    rw [hws] at hP1
    refine ⟨hP1, fun x y => ?_, fun q hq => ?_, ?_, fun q => absurd q (by show ¬ hX h + 1 = 0; omega)⟩
    · show amIn (uCpy _ _ _ _ _ _ x y)
      unfold uCpy
      split
      · exact A.rel.2.1 _ _
      · exact A.rel.2.1 _ _
    · rw [hS1.2.1 q (Nat.lt_of_lt_of_le hq A.2.1.2.2.2.2.2.2.2.1) (Nat.not_le.mpr hq)]
      exact A.2.1.2.2.2.2.2.2.2.2.2.2.2.2 q hq
    · rcases Nat.eq_zero_or_pos (hS h).length with z | z
      · have : (0 : Nat) < (hS h).length := Nat.lt_of_le_of_lt (Nat.zero_le _) (List.getElem?_eq_some_iff.mp h1).1
        omega
      · obtain ⟨s1, hs1⟩ : ∃ s1, (hS h)[(hS h).length - 1]? = some s1 := ⟨_, List.getElem?_eq_getElem (by omega)⟩
        have hs1' : (hS ((uCpy h.1 a sp.toNat b dp.toNat n.toNat, h.2.1, h.2.2.1, h.2.2.2.1, h.2.2.2.2.1 + 1, h.2.2.2.2.2) : amH))[(hS h).length - 1]? = some s1 := hs1
        have := (hP1 _ _ (amWs_at hs1')).lt
        have : gB G + ((hS h).length - 1) < H1.size := this
        show gB G + (hS h).length ≤ H1.size
        omega
  refine hK _ _ _ hk _ _ _ _ _ _ _ _ _ _ _ _ _ _ _ ⟨A.1, A.2.1, A.2.2.1, hrel, hS1.1, hS1.2.2, A.2.2.2.2.2.2.1, A.2.2.2.2.2.2.2.1, A.hl, am_tl (am_tl (am_tl (am_tl (am_tl A.ok))))⟩
end HeapRows
