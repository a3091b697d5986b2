/-! ===== the rows of the abstract machine: ends, throws, copies ===== -/
section HeapRows
variable {G : amG} {M : amM} {Q : amR → amH → Prop} {p : Program} {e : Env} {R : Room} {s : State} {m : MethodId} {args : Array Value} {below : List Frame} {meth : Method} {c : Code} {Z : State → Prop} {H : Heap} {locs : List Loc} {cells slots : Nat} {LS : Array Slot} {ls : List (Option amV)} {sk : List amV} {h : amH}
variable {K : amK1} {J : amJ1} {pc len : Nat} {aux : Nat × Nat × Nat} {S : Option amS}
theorem amA.lk (A : amA G M Q p e R s m args below meth c Z H locs cells slots LS ls sk h) : meth.locks = false := A.2.1.2.2.2.2.1
theorem amA.rt (A : amA G M Q p e R s m args below meth c Z H locs cells slots LS ls sk h) : meth.sig.returnType = sr M.1 := A.2.1.2.2.2.1
theorem amA.lc (A : amA G M Q p e R s m args below meth c Z H locs cells slots LS ls sk h) : ∀ z ∈ locs, gB G ≤ z.base := A.2.2.2.2.2.1
theorem amA.q (A : amA G M Q p e R s m args below meth c Z H locs cells slots LS ls sk h) {r : Option amV} (hq : Q (Sum.inl r) h) (ho : ∀ v, r = some v → amOk v) : ∀ t : State, t.heap = H → s.WarmedH t.vm → amQ G Q args s (.returned (r.map (amRv (gB G)))) t :=
  fun t ht _ => ⟨r, h, hq, ho, rfl, by rw [ht]; exact A.rel, by rw [ht]; exact A.2.2.2.2.1⟩
theorem X_ireturn (he : amOkE M (pc, .ireturn, len, aux, S)) (hs : amStep G M Q (pc, .ireturn, len, aux, S) K J ls sk h) : X G M Q pc ls sk h := by
  obtain ⟨hd, hl⟩ := he
  cases (show len = 1 from hl)
  intro p e R s m args below meth c Z H locs cells slots LS A
  revert hs A
  rcases sk with _ | ⟨x | _ | _ | _ | _, _ | ⟨_, _⟩⟩ <;> first | exact fun q => q.elim | skip
  intro hs A
  have hs : (match sr M.1 with
      | some .int => Q (Sum.inl (some (aI x))) h
      | some .boolean => (x = 0 ∨ x = 1) ∧ Q (Sum.inl (some (aI x))) h
      | _ => False) := hs
  have ox : amIn x := am_hd A.ok
  have ho : ∀ v, some (aI x) = some v → amOk v := fun v hv => by cases hv; exact ox
  have hz := A.2.2.1
  rcases hz with hz | ⟨-, hb, hz⟩
  · subst hz
    refine vx_ret (W.widen A.cR.1 A.cR.2 ?_)
    split at hs
    · rename_i e1
      exact W.iret A.hx A.hb (A.rt.trans e1) (A.q (r := some (aI x)) hs ho) A.lc hd A.lk
    · rename_i e1
      exact W.zret A.hx A.hb (A.rt.trans e1) (by rcases hs.1 with rfl | rfl <;> rfl) (A.q (r := some (aI x)) hs.2 ho) A.lc hd A.lk
    · exact hs.elim
  · rw [hb] at hs
    exact hz x h H locs cells slots LS pc hs.2 hs.1 A.rel A.2.2.2.2.1 A.lc A.2.2.2.2.2.2.1 A.2.2.2.2.2.2.2.1 hd
theorem X_lreturn (he : amOkE M (pc, .lreturn, len, aux, S)) (hs : amStep G M Q (pc, .lreturn, len, aux, S) K J ls sk h) : X G M Q pc ls sk h := by
  obtain ⟨hd, hl⟩ := he
  cases (show len = 1 from hl)
  intro p e R s m args below meth c Z H locs cells slots LS A
  revert hs A
  rcases sk with _ | ⟨_ | _ | x | _ | _, _ | ⟨_, _⟩⟩ <;> first | exact fun q => q.elim | skip
  intro hs A
  have hs : sr M.1 = some .long ∧ Q (Sum.inl (some (aL x))) h := hs
  rcases A.2.2.1 with hz | ⟨-, hb, hz⟩
  · subst hz
    exact vx_ret (W.widen A.cR.1 A.cR.2 (W.lret A.hx A.hb (A.rt.trans hs.1) (A.q (r := some (aL x)) hs.2 (fun v hv => by cases hv; trivial)) A.lc hd A.lk))
  · rw [hs.1] at hb; cases hb
theorem X_dreturn (he : amOkE M (pc, .dreturn, len, aux, S)) (hs : amStep G M Q (pc, .dreturn, len, aux, S) K J ls sk h) : X G M Q pc ls sk h := by
  obtain ⟨hd, hl⟩ := he
  cases (show len = 1 from hl)
  intro p e R s m args below meth c Z H locs cells slots LS A
  revert hs A
  rcases sk with _ | ⟨_ | _ | _ | x | _, _ | ⟨_, _⟩⟩ <;> first | exact fun q => q.elim | skip
  intro hs A
  have hs : sr M.1 = some .double ∧ Q (Sum.inl (some (aD x))) h := hs
  rcases A.2.2.1 with hz | ⟨-, hb, hz⟩
  · subst hz
    exact vx_ret (W.widen A.cR.1 A.cR.2 (W.dret A.hx A.hb (A.rt.trans hs.1) (A.q (r := some (aD x)) hs.2 (fun v hv => by cases hv; trivial)) A.lc hd A.lk))
  · rw [hs.1] at hb; cases hb
theorem X_return (he : amOkE M (pc, .return_, len, aux, S)) (hs : amStep G M Q (pc, .return_, len, aux, S) K J ls sk h) : X G M Q pc ls sk h := by
  obtain ⟨hd, hl⟩ := he
  cases (show len = 1 from hl)
  intro p e R s m args below meth c Z H locs cells slots LS A
  revert hs A
  rcases sk with _ | ⟨_, _⟩
  · intro hs A
    have hs : sr M.1 = none ∧ Q (Sum.inl none) h := hs
    rcases A.2.2.1 with hz | ⟨-, hb, hz⟩
    · subst hz
      exact vx_ret (W.widen A.cR.1 A.cR.2 (W.vret A.hx A.hb (A.rt.trans hs.1) (A.q (r := none) hs.2 (fun v hv => by cases hv)) A.lc hd A.lk))
    · rw [hs.1] at hb; cases hb
  · exact fun q => q.elim
theorem amA.z (A : amA G M Q p e R s m args below meth c Z H locs cells slots LS ls sk h) {C n d : String} (hz : vx_Zq C n d (fun q => gB G ≤ q) (gs G) (gs G).heap) : vx_Zq C n d (fun q => gB G ≤ q) s s.heap :=
  (vx_Zq.moved A.hW.alike hz).kept (fun a h1 _ => A.2.1.2.2.2.2.2.2.2.2.2.2.2.2 a h1)
theorem amA.wf (A : amA G M Q p e R s m args below meth c Z H locs cells slots LS ls sk h) {w : Jvm.Cond} (hw : w ∈ lw_tbl) (hk : w.keepsFace = true) (ho : w.onTables = true) (a' : Array Value) : w.before a' s = true := by
  have h1 : w.before #[Value.ref (gb G)] ((gs G).setVm s.vm) = true := Cond.before_shiftedFace (State.Shifted.of_warmed A.hW) w hk (A.1.2.1 w hw)
  exact va_Nw.use ho (va_Nw.same (u := (gs G).setVm s.vm) ho rfl (va_Nw.of ho h1))
theorem X_throw {idx j a2 a3 : Nat} (he : amOkE M (pc, .new idx, len, (100 + j, a2, a3), S)) (hs : amStep G M Q (pc, .new idx, len, (100 + j, a2, a3), S) K J ls sk h) : X G M Q pc ls sk h := by
  obtain ⟨hd, hl⟩ := he
  have hl : len = 3 ∧ amThr M pc idx (100 + j - 100) := by
    have q : if 100 + j < 100 then _ else _ := hl
    rw [if_neg (by omega)] at q; exact q
  have hs2 : (1 ≤ hC h ∧ 6 ≤ hT h ∧ amW8 sk) ∧ Q (Sum.inr (100 + j - 100)) (hThrow h) := by
    have q : if 100 + j < 100 then _ else _ := hs
    rw [if_neg (by omega)] at q; exact q
  rw [show 100 + j - 100 = j by omega] at hl hs2
  obtain ⟨rfl, hj, hsh, ⟨f1, f2⟩, is, ic, ls9, tx, wide, w1, w2, w3, hat, hgood, d3, d4, d6, d9⟩ := hl
  obtain ⟨⟨b1, b2, b3⟩, hq⟩ := hs2
  intro p e R s m args below meth c Z H locs cells slots LS A
  have hw8 := am_w8 (B := gB G) b3
  have hfr := A.fR
  have e1 : cells + hC h = R.cells := A.2.2.2.2.2.2.1
  have e2 : slots + hT h = R.slots := A.2.2.2.2.2.2.2.1
  rcases A.2.2.1 with hz | ⟨hz, -⟩
  · subst hz
    obtain ⟨sa, hstr⟩ := A.1.2.2.2.2.2.2.2.2.1 _ _ _ w1
    have hstr' : vk_R M.2.1 is tx sa s := vk_R.warm A.hW hstr
    have htab : c.exceptionTable.toList = [] := by
      have q := A.2.1.2.2.2.2.2.2.2.2.1
      rw [hsh] at q
      exact List.map_eq_nil_iff.mp q
    have hat' : ∀ w ∈ vx_atS M.2.1 ic (amEx j) ["java/lang/RuntimeException", "java/lang/Exception"], w.before args s = true := fun w hw => A.wf (hat w hw).1 (Bundle.ownAtoms_keepsFace w (List.mem_filter.mp hw).1) (hat w hw).2 args
    have hcf : Bundle.fit (amEx j) = true := by
      match j, hj with
      | 0, _ => decide
      | 1, _ => decide
      | 2, _ => decide
    have hx : ∀ t : State, s.vm.Alike t.vm → H.size ≤ t.heap.size → (∀ q : Nat, q < H.size → t.heap[q]? = H[q]?) → amXC G Q (amEx j) s t := by
      intro t _ hz ho
      refine ⟨j, hThrow h, hq, rfl, hj, ⟨fun k q hk => ?_, A.rel.2.1, fun q hq => ?_, ?_, fun q => absurd q (by show ¬ hX h + 1 = 0; omega)⟩, Nat.le_trans A.2.2.2.2.1 hz⟩
      · exact (A.rel.1 k q hk).kept (ho _ ((A.rel.1 k q hk).lt))
      · have := A.rel.2.2.2.1
        rw [ho q (by have : q < gB G := hq; omega)]; exact A.rel.2.2.1 q hq
      · exact Nat.le_trans A.rel.2.2.2.1 hz
    cases wide with
    | true =>
      obtain ⟨d4, rfl⟩ := d4
      exact vx_throwSW A.hx A.hb A.1.1 A.hown hcf (by decide) (A.w w2 rfl args) (A.w w3 rfl args) hstr' hat' hgood (A.z A.1.2.2.2.2.2.2.1) (A.z A.1.2.2.2.2.2.2.2.1) A.vs A.ml.symm hd d3 d4 d6 d9 (fun x hx => by rw [htab] at hx; cases hx) (by show 2 + 3 < _; omega) (by show _ + (13 * 3 + 43) ≤ _; omega) (by omega) (by omega) A.lk hx A.lc (by omega) (by omega)
    | false =>
      obtain ⟨d4, rfl⟩ := d4
      exact vx_throwS A.hx A.hb A.1.1 A.hown hcf (by decide) (A.w w2 rfl args) (A.w w3 rfl args) hstr' hat' hgood (A.z A.1.2.2.2.2.2.2.1) (A.z A.1.2.2.2.2.2.2.2.1) A.vs A.ml.symm hd d3 d4 d6 d9 (fun x hx => by rw [htab] at hx; cases hx) (by show 2 + 3 < _; omega) (by show _ + (13 * 3 + 43) ≤ _; omega) (by omega) (by omega) A.lk hx A.lc (by omega) (by omega)
  · exact absurd hq (hz _ _)
end HeapRows
