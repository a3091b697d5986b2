/-! ===== the rows of the abstract machine: what is new, constants, the library's own methods, switches, ends ===== -/
theorem u1_row {α : Type} {f : Nat → Nat → α} {a : Nat} {v : α} {j : Nat} (h : j ≠ a) : ∀ y, u1 f a v j y = f j y := fun y => by simp [u1, h]
theorem u1_same {α : Type} {f : Nat → Nat → α} {a : Nat} {v : α} : ∀ y, u1 f a v a y = v := fun y => by simp [u1]
theorem am_w8 {B : Nat} {r : List amV} (h : amW8 r) : ((r.map (amRv B)).map fun v => v.category).sum ≤ 8 := by
  rw [List.map_map]
  have e : ((fun v => Value.category v) ∘ amRv B) = amCat := funext (fun v => amCat_r B v)
  rw [e]; exact h
section HeapRows
variable {G : amG} {M : amM} {Q : amR → amH → Prop} {p : Program} {e : Env} {R : Room} {s : State} {m : MethodId} {args : Array Value} {below : List Frame} {meth : Method} {c : Code} {Z : State → Prop} {H : Heap} {locs : List Loc} {cells slots : Nat} {LS : Array Slot} {ls : List (Option amV)} {sk : List amV} {h : amH}
variable {K : amK1} {J : amJ1} {pc len : Nat} {aux : Nat × Nat × Nat} {S : Option amS}
theorem amRel_new {s0 : Nat × Nat} {t : Nat} {H' : Heap} (hr : amRel G h H) (hx : hX h = 0) (he : va_at (gD G) vwCl (gB G + (hS h).length, amCell (gB G) (gA G) (hNew h s0 t) (hS h).length s0) H') (hz : H'.size = H.size + 1) (oq : ∀ q, q < H.size → H'[q]? = H[q]?) : amRel G (hNew h s0 t) H' := by
  have hsz := hr.2.2.2.2 hx
  have hsl : (hS (hNew h s0 t)).length = (hS h).length + 1 := by
    show ((hS h) ++ [s0]).length = _
    rw [List.length_append]; rfl
  refine ⟨fun k q hq => ?_, fun a k => ?_, fun q hq => ?_, ?_, fun _ => ?_⟩
  · obtain ⟨s1, h1, rfl⟩ := amWs_inv hq
    have h1 : ((hS h) ++ [s0])[k]? = some s1 := h1
    by_cases hk : k < (hS h).length
    · rw [List.getElem?_append_left hk] at h1
      have hne : k ≠ (hS h).length := by omega
      rw [amCell_eq (h := h) (h' := hNew h s0 t) (u1_row hne) (u1_row hne) (u1_row hne)]
      exact (hr.1 k _ (amWs_at h1)).kept (oq _ (by show gB G + k < H.size; omega))
    · rw [List.getElem?_append_right (by omega)] at h1
      have hz : k - (hS h).length < 1 := (List.getElem?_eq_some_iff.mp h1).1
      have hk0 : k = (hS h).length := by omega
      subst hk0
      rw [Nat.sub_self] at h1
      cases h1
      exact he
  · show amIn (u1 h.1 _ 0 a k)
    unfold u1
    split
    · exact amIn_0
    · exact hr.2.1 a k
  · rw [oq q (by have : q < gB G := hq; omega)]
    exact hr.2.2.1 q hq
  · rw [hz, hsz, hsl]; omega
  · rw [hz, hsz, hsl]; omega
theorem amA.new {s0 : Nat × Nat} {t : Nat} {H' : Heap} {r : List amV} (A : amA G M Q p e R s m args below meth c Z H locs cells slots LS ls sk h) (hr : amRel G (hNew h s0 t) H') (hz : H'.size = H.size + 1) (h1 : 1 ≤ hC h) (h2 : t ≤ hT h) (hs : ∀ v ∈ r, amOk v) : amA G M Q p e R s m args below meth c Z H' locs (cells + 1) (slots + t) LS ls r (hNew h s0 t) := by
  have e1 : cells + hC h = R.cells := A.2.2.2.2.2.2.1
  have e2 : slots + hT h = R.slots := A.2.2.2.2.2.2.2.1
  exact A.world hr (by omega) A.2.2.2.2.2.1 (by show cells + 1 + (hC h - 1) = _; omega) (by show slots + t + (hT h - t) = _; omega) hs
theorem am_newFs {ci N : Nat} {C : String} {T : u_T} (hc : amClsOk ci C T N) (B t0 : Nat) (h : amH) (s0 : Nat × Nat) : ∀ j, j < N → defaultValue (amFT ci j) = vp_V (amFs B (hNew h s0 t0) ci (hS h).length) j := by
  intro j hj
  obtain ⟨-, -, -, -, hN, hkd⟩ := hc
  have hj2 : j < (amF ci).length := hN ▸ hj
  obtain ⟨t, ht⟩ : ∃ t, (amF ci)[j]? = some t := ⟨_, List.getElem?_eq_getElem hj2⟩
  have hkd1 := hkd j hj
  rw [List.getD_eq_getElem?_getD, ht] at hkd1
  have hkd1 : amKd t (amFT ci j) := hkd1
  have e1 : vp_V (amFs B (hNew h s0 t0) ci (hS h).length) j = amVal B (hNew h s0 t0) t (hS h).length j := by
    unfold vp_V
    rw [List.getD_eq_getElem?_getD, amFs_at ht]; rfl
  rw [e1]
  rcases hkd1 with ⟨rfl, h2⟩ | ⟨rfl, h2⟩ | ⟨rfl, h2⟩
  · rw [h2]; show _ = Value.int (Int32.ofInt (u1 h.1 _ 0 _ j)); rw [u1_same]; rfl
  · show _ = va_rf ((u1 h.2.1 _ none _ j).map _); rw [u1_same]
    revert h2
    cases amFT ci j <;> first | (intro h2; cases h2; done) | (intro _; rfl)
  · rw [h2]; show _ = Value.long (u1 h.2.2.1 _ 0 _ j); rw [u1_same]; rfl
theorem X_newO {idx ci N a3 : Nat} (hci : ci < 100) (he : amOkE M (pc, .new idx, len, (ci, N, a3), S)) (hs : amStep G M Q (pc, .new idx, len, (ci, N, a3), S) K J ls sk h) (hK : amHK G M Q pc len K) : X G M Q pc ls sk h := by
  obtain ⟨hd, hl⟩ := he
  have hl : len = 3 ∧ ∃ (C : String) (T : u_T), vwCl[ci]? = some (C, T, N) ∧ Cond.classLink M.2.1 idx C ∈ lw_tbl ∧ Cond.instantiable C N ∈ lw_tbl ∧ Cond.initialized C ∈ lw_tbl := by
    have q : if ci < 100 then _ else _ := hl
    rw [if_pos hci] at q; exact q
  obtain ⟨rfl, C, T, hc, w1, w2, w3⟩ := hl
  have hs : (1 ≤ hC h ∧ N ≤ hT h ∧ hX h = 0) ∧ K ls (aR (some (hS h).length) :: sk) (hNew h (ci, 0) N) := by
    have q : if ci < 100 then _ else _ := hs
    rw [if_pos hci] at q; exact q
  obtain ⟨⟨b1, b2, b3⟩, hs⟩ := hs
  intro p e R s m args below meth c Z H locs cells slots LS A
  have hcl := amCls ci C T N hc
  obtain ⟨hci2, hu, hty, hnm, hN, hkd⟩ := id hcl
  have e1 : cells + hC h = R.cells := A.2.2.2.2.2.2.1
  have e2 : slots + hT h = R.slots := A.2.2.2.2.2.2.2.1
  have hsz := A.rel.2.2.2.2 b3
  have hu' : ∀ w ∈ u_ws C T N, w.before args s = true := fun w hw' => A.w (hu w hw') (by
    obtain ⟨j, -, rfl⟩ := List.mem_map.mp hw'
    unfold u_lay
    split <;> rfl) args
  have hKn := A.k.1 ci _ hc
  refine W.newcK A.hx A.hb A.hown (A.w w1 rfl args) (A.w w2 rfl args) (A.w w3 rfl args) rfl hd (by omega) (by omega) hKn.2.1 (h := gB G + (hS h).length) (by omega) (fun H1 kC hkC e3 z1 o1 => ?_)
  have z2 : H1.size = H.size + 1 := by omega
  have o2 : ∀ q, q < H.size → H1[q]? = H[q]? := fun q hq => o1 q (by omega)
  have hat : va_at (gD G) vwCl (gB G + (hS h).length, amCell (gB G) (gA G) (hNew h (ci, 0) N) (hS h).length (ci, 0)) H1 := by
    rw [show amCell (gB G) (gA G) (hNew h (ci, 0) N) (hS h).length (ci, 0) = .inr (ci, amFs (gB G) (hNew h (ci, 0) N) ci (hS h).length) from if_pos hci2]
    exact ⟨_, hc, (u_born (amFT ci) hu' (fun _ q => q) hKn hkC e3 hty).to (am_newFs hcl _ _ _ _)⟩
  exact hK _ _ _ hs _ _ _ _ _ _ _ _ _ _ _ _ _ _ _ (A.new (amRel_new A.rel b3 hat z2 o2) z2 b1 b2 (am_all1 (v := aR (some (hS h).length)) trivial A.ok))
theorem X_newarray {ty : ArrayType} {kd a2 a3 : Nat} (he : amOkE M (pc, .newarray ty, len, (kd, a2, a3), S)) (hs : amStep G M Q (pc, .newarray ty, len, (kd, a2, a3), S) K J ls sk h) (hK : amHK G M Q pc len K) : X G M Q pc ls sk h := by
  obtain ⟨hd, hl, hkd, hw⟩ := he
  cases (show len = 2 from hl)
  dsimp only at hkd hw
  intro p e R s m args below meth c Z H locs cells slots LS A
  revert hs A
  rcases sk with _ | ⟨n | _ | _ | _ | _, r⟩ <;> first | exact fun q => q.elim | skip
  intro hs A
  obtain ⟨⟨n0, n1, b1, b2, b3⟩, hs⟩ := (id hs : _ ∧ _)
  have e1 : cells + hC h = R.cells := A.2.2.2.2.2.2.1
  have e2 : slots + hT h = R.slots := A.2.2.2.2.2.2.2.1
  have hsz := A.rel.2.2.2.2 b3
  have oi : amIn n := am_hd A.ok
  have en := amI_cl n0 oi.2
  have hn0 : ¬ Int32.ofInt n < 0 := fun q => by
    rw [← amI_0, amI_lt oi amIn_0] at q; omega
  have hby : n.toNat * componentBytes (newarray.typeOf ty) ≤ 536870912 := by
    have : componentBytes (newarray.typeOf ty) ≤ 8 := by cases ty <;> decide
    calc _ ≤ n.toNat * 8 := Nat.mul_le_mul_left _ this
      _ ≤ 536870912 := by omega
  refine va_newaK A.hx A.hb (A.w hw (by cases ty <;> rfl) args) rfl hd rfl hn0 en hby (by omega) (by omega) (h := gB G + (hS h).length) (by omega) (fun H1 cA e3 z1 o1 hAr hNm => ?_)
  have z2 : H1.size = H.size + 1 := by omega
  have o2 : ∀ q, q < H.size → H1[q]? = H[q]? := fun q hq => o1 q (by omega)
  have hat : va_at (gD G) vwCl (gB G + (hS h).length, amCell (gB G) (gA G) (hNew h (kd, n.toNat) n.toNat) (hS h).length (kd, n.toNat)) H1 := by
    obtain ⟨rfl, ht⟩ := hkd
    · rw [ht] at e3 hNm
      have hc2 := ((A.k.2 0 _ (am_ty G 0 (by decide))).2)
      have hc3 : cA = gA G 20 := Option.some.inj (hNm.symm.trans hc2)
      subst hc3
      show H1[_]? = some (vp_cell (gA G 20) (n.toNat, .inl _))
      rw [e3, vp_cell_i]
      congr 2
      funext j
      show _ = Value.int (Int32.ofInt (u1 h.1 _ 0 _ j))
      rw [u1_same]; rfl
  exact hK _ _ _ hs _ _ _ _ _ _ _ _ _ _ _ _ _ _ _ (A.new (amRel_new A.rel b3 hat z2 o2) z2 b1 b2 (am_all1 (v := aR (some (hS h).length)) trivial (am_tl A.ok)))
theorem X_anewarray {idx kd a2 a3 : Nat} (he : amOkE M (pc, .anewarray idx, len, (kd, a2, a3), S)) (hs : amStep G M Q (pc, .anewarray idx, len, (kd, a2, a3), S) K J ls sk h) (hK : amHK G M Q pc len K) : X G M Q pc ls sk h := by
  obtain ⟨hd, hl, hkd, C, hCC, w1, w2⟩ := he
  cases (show len = 3 from hl)
  dsimp only at hkd hCC w1 w2
  intro p e R s m args below meth c Z H locs cells slots LS A
  revert hs A
  rcases sk with _ | ⟨n | _ | _ | _ | _, r⟩ <;> first | exact fun q => q.elim | skip
  intro hs A
  obtain ⟨⟨n0, n1, b1, b2, b3⟩, hs⟩ := (id hs : _ ∧ _)
  have e1 : cells + hC h = R.cells := A.2.2.2.2.2.2.1
  have e2 : slots + hT h = R.slots := A.2.2.2.2.2.2.2.1
  have hsz := A.rel.2.2.2.2 b3
  have oi : amIn n := am_hd A.ok
  have en := amI_cl n0 oi.2
  have hn0 : ¬ Int32.ofInt n < 0 := fun q => by
    rw [← amI_0, amI_lt oi amIn_0] at q; omega
  refine W.anew A.hx A.hb A.hown (A.w w1 rfl args) (va_AO.use (va_AO.moved A.hW.alike (va_AO.of (A.1.2.1 _ w2)))) rfl hd rfl hn0 (by rw [en]; omega) (by omega) (by rw [en]; omega) (fun cA kA comp f1 f2 f3 f4 => ?_)
  rw [en]
  have ha : H.size = gB G + (hS h).length := by omega
  generalize hH1 : H.push ({ cls := cA, slots := Array.replicate n.toNat .null, vm := .none } : Cell) = H1
  have z2 : H1.size = H.size + 1 := by rw [← hH1, Array.size_push]
  have e3 : H1[gB G + (hS h).length]? = some (arrV cA n.toNat (fun _ => .null)) := by rw [← hH1, ← ha, Array.getElem?_push_size, ← arrV_new]
  have o2 : ∀ q, q < H.size → H1[q]? = H[q]? := fun q hq => by
    rw [← hH1, Array.getElem?_push, if_neg (Nat.ne_of_lt hq)]
  have ht := am_ty G (kd - 20) (by omega)
  rw [show 20 + (kd - 20) = kd by omega, hCC] at ht
  obtain ⟨kA2, comp2, k1, k2, k3, k4⟩ := (A.k.2 (kd - 20) _ ht).2
  have hc3 : cA = gA G kd := Option.some.inj (f1.symm.trans k4)
  subst hc3
  have hat : va_at (gD G) vwCl (gB G + (hS h).length, amCell (gB G) (gA G) (hNew h (kd, n.toNat) n.toNat) (hS h).length (kd, n.toNat)) H1 := by
    rw [am_c22 _ _ _ _ _ _ hkd]
    show H1[_]? = some (vp_cell (gA G kd) (n.toNat, .inr (.inr (.inr (.inr _)))))
    rw [e3, vp_cell_q]
    congr 2
    funext j
    show _ = va_rf ((u1 h.2.1 _ none _ j).map _)
    rw [u1_same]; rfl
  rw [ha]
  exact hK _ _ _ hs _ _ _ _ _ _ _ _ _ _ _ _ _ _ _ (A.new (amRel_new A.rel b3 hat z2 o2) z2 b1 b2 (am_all1 (v := aR (some (hS h).length)) trivial (am_tl A.ok)))
theorem X_ldc {idx v a2 a3 : Nat} (he : amOkE M (pc, .ldc idx, len, (v, a2, a3), S)) (hs : amStep G M Q (pc, .ldc idx, len, (v, a2, a3), S) K J ls sk h) (hK : amHK G M Q pc len K) : X G M Q pc ls sk h := by
  obtain ⟨hd, hl, w, hw, hv, hi⟩ := he
  cases (show len = 2 from hl)
  intro p e R s m args below meth c Z H locs cells slots LS A
  have hs : K ls (aI (v : Nat) :: sk) h := hs
  refine lv_ldc A.hx A.hb A.hown (A.w hw rfl args) hd ?_
  rw [hv]
  exact hK _ _ _ hs _ _ _ _ _ _ _ _ _ _ _ _ _ _ _ (A.to (am_all1 (v := aI (v : Nat)) hi A.ok))
theorem X_ldc2 {idx t v a3 : Nat} (he : amOkE M (pc, .ldc2_w idx, len, (t, v, a3), S)) (hs : amStep G M Q (pc, .ldc2_w idx, len, (t, v, a3), S) K J ls sk h) (hK : amHK G M Q pc len K) : X G M Q pc ls sk h := by
  obtain ⟨hd, hl, hw⟩ := he
  cases (show len = 3 from hl)
  intro p e R s m args below meth c Z H locs cells slots LS A
  match t, hw, hs with
  | 0, hw, hs => exact lv_ldc2 A.hx A.hb A.hown (A.w hw rfl args) hd (hK _ _ _ hs _ _ _ _ _ _ _ _ _ _ _ _ _ _ _ (A.to (am_all1 (v := aL (Int64.ofNat v)) trivial A.ok)))
  | t + 1, hw, hs => exact lv_ldc2d A.hx A.hb A.hown (A.w hw rfl args) hd (hK _ _ _ hs _ _ _ _ _ _ _ _ _ _ _ _ _ _ _ (A.to (am_all1 (v := aD (UInt64.ofNat v)) trivial A.ok)))
theorem amA.ml (A : amA G M Q p e R s m args below meth c Z H locs cells slots LS ls sk h) : c.maxLocals = LS.size := A.2.1.2.2.1.trans A.hl.1.symm
theorem amA.cR (A : amA G M Q p e R s m args below meth c Z H locs cells slots LS ls sk h) : cells ≤ R.cells ∧ slots ≤ R.slots := ⟨by have := A.2.2.2.2.2.2.1; omega, by have := A.2.2.2.2.2.2.2.1; omega⟩
theorem amA.fR (A : amA G M Q p e R s m args below meth c Z H locs cells slots LS ls sk h) : sf M.1 ≤ R.frames ∧ sl M.1 ≤ R.locals := ⟨A.2.1.2.2.2.2.2.2.2.2.2.1, A.2.1.2.2.2.2.2.2.2.2.2.2.1⟩
theorem X_init0 {idx : Nat} (he : amOkE M (pc, .invokespecial idx, len, aux, none)) (hs : amStep G M Q (pc, .invokespecial idx, len, aux, none) K J ls sk h) (hK : amHK G M Q pc len K) : X G M Q pc ls sk h := by
  obtain ⟨hd, hl, w1, w2, w3, b1, b2⟩ := he
  cases (show len = 3 from hl)
  intro p e R s m args below meth c Z H locs cells slots LS A
  have hs : amStR (fun _ r => amW8 r ∧ K ls r h) sk := hs
  have hf := A.fR
  revert hs A
  rcases sk with _ | ⟨_ | (_ | a) | _ | _ | a, r⟩ <;> first | exact fun _ q => q.elim | skip
  · intro A hs
    have hw := am_w8 (B := gB G) hs.1
    refine W.objInit A.hx A.hb A.hown (A.w w1 rfl args) (A.w w2 rfl args) (A.w w3 rfl args) (g := F0 m pc LS ((aR (some a) :: r).map (amRv (gB G)))) rfl A.ml.symm rfl hd (by omega) ?_ ?_
    · show 2 * 0 + _ + 12 ≤ _
      omega
    · exact hK _ _ _ hs.2 _ _ _ _ _ _ _ _ _ _ _ _ _ _ _ (A.to (am_tl A.ok))
  · intro A hs
    have hw := am_w8 (B := gB G) hs.1
    refine W.objInit A.hx A.hb A.hown (A.w w1 rfl args) (A.w w2 rfl args) (A.w w3 rfl args) (g := F0 m pc LS ((aO a :: r).map (amRv (gB G)))) rfl A.ml.symm rfl hd (by omega) ?_ ?_
    · show 2 * 0 + _ + 12 ≤ _
      omega
    · exact hK _ _ _ hs.2 _ _ _ _ _ _ _ _ _ _ _ _ _ _ _ (A.to (am_tl A.ok))
theorem X_abs {idx a1 a3 : Nat} (he : amOkE M (pc, .invokestatic idx, len, (a1, 10, a3), none)) (hs : amStep G M Q (pc, .invokestatic idx, len, (a1, 10, a3), none) K J ls sk h) (hK : amHK G M Q pc len K) : X G M Q pc ls sk h := by
  obtain ⟨hd, hl, ⟨b1, b2⟩, w1, w2, w3, w4⟩ := he
  cases (show len = 3 from hl)
  intro p e R s m args below meth c Z H locs cells slots LS A
  have hs : am1I (fun x r => (amIn (-x) ∧ amW8 r) ∧ K ls (aI (if x < 0 then -x else x) :: r) h) sk := hs
  have hf := A.fR
  revert hs A
  rcases sk with _ | ⟨x | _ | _ | _ | _, r⟩ <;> first | exact fun _ q => q.elim | skip
  intro A hs
  have hw := am_w8 (B := gB G) hs.1.2
  have ox : amIn x := am_hd A.ok
  refine va_mabs A.hx A.hb A.ml A.hown (A.w w1 rfl args) (A.w w2 rfl args) (A.w w3 rfl args) (A.w w4 rfl args) (by omega) (by omega) A.cR.1 A.cR.2 hd ?_
  have k := hK _ _ _ hs.2 _ _ _ _ _ _ _ _ _ _ _ _ _ _ _ (A.to (am_all1 (v := aI (if x < 0 then -x else x)) (by
    show amIn _
    split
    · exact hs.1.1
    · exact ox) (am_tl A.ok)))
  have e1 : (if 0 ≤ Int32.ofInt x then Int32.ofInt x else 0 - Int32.ofInt x) = Int32.ofInt (if x < 0 then -x else x) := by
    have e2 : 0 ≤ Int32.ofInt x ↔ 0 ≤ x := by rw [← amI_0, amI_le amIn_0 ox]
    by_cases hx : x < 0
    · rw [if_pos hx, if_neg (fun q => by have := e2.mp q; omega), ← amI_0, ← Int32.ofInt_sub]
      congr 1; omega
    · rw [if_neg hx, if_pos (e2.mpr (by omega))]
  rw [e1]; exact k
theorem X_max {idx a1 a3 : Nat} (he : amOkE M (pc, .invokestatic idx, len, (a1, 11, a3), none)) (hs : amStep G M Q (pc, .invokestatic idx, len, (a1, 11, a3), none) K J ls sk h) (hK : amHK G M Q pc len K) : X G M Q pc ls sk h := by
  obtain ⟨hd, hl, ⟨b1, b2⟩, w1, w2, w3, w4⟩ := he
  cases (show len = 3 from hl)
  intro p e R s m args below meth c Z H locs cells slots LS A
  have hs : am2I (fun x y r => amW8 r ∧ K ls (aI (if x < y then y else x) :: r) h) sk := hs
  have hf := A.fR
  revert hs A
  rcases sk with _ | ⟨y | _ | _ | _ | _, _ | ⟨x | _ | _ | _ | _, r⟩⟩ <;> first | exact fun _ q => q.elim | skip
  intro A hs
  have hw := am_w8 (B := gB G) hs.1
  have ox : amIn x := am_hd (am_tl A.ok)
  have oy : amIn y := am_hd A.ok
  refine va_mmax A.hx A.hb A.ml A.hown (A.w w1 rfl args) (A.w w2 rfl args) (A.w w3 rfl args) (A.w w4 rfl args) (by omega) (by omega) A.cR.1 A.cR.2 hd ?_
  have k := hK _ _ _ hs.2 _ _ _ _ _ _ _ _ _ _ _ _ _ _ _ (A.to (am_all1 (v := aI (if x < y then y else x)) (by
    show amIn _
    split
    · exact oy
    · exact ox) (am_tl (am_tl A.ok))))
  have e1 : (if Int32.ofInt x < Int32.ofInt y then Int32.ofInt y else Int32.ofInt x) = Int32.ofInt (if x < y then y else x) := by
    have e2 := amI_lt ox oy
    by_cases hx : x < y
    · rw [if_pos hx, if_pos (e2.mpr hx)]
    · rw [if_neg hx, if_neg (fun q => hx (e2.mp q))]
  rw [e1]; exact k
theorem X_min {idx a1 a3 : Nat} (he : amOkE M (pc, .invokestatic idx, len, (a1, 12, a3), none)) (hs : amStep G M Q (pc, .invokestatic idx, len, (a1, 12, a3), none) K J ls sk h) (hK : amHK G M Q pc len K) : X G M Q pc ls sk h := by
  obtain ⟨hd, hl, ⟨b1, b2⟩, w1, w2, w3, w4⟩ := he
  cases (show len = 3 from hl)
  intro p e R s m args below meth c Z H locs cells slots LS A
  have hs : am2I (fun x y r => amW8 r ∧ K ls (aI (if y < x then y else x) :: r) h) sk := hs
  have hf := A.fR
  revert hs A
  rcases sk with _ | ⟨y | _ | _ | _ | _, _ | ⟨x | _ | _ | _ | _, r⟩⟩ <;> first | exact fun _ q => q.elim | skip
  intro A hs
  have hw := am_w8 (B := gB G) hs.1
  have ox : amIn x := am_hd (am_tl A.ok)
  have oy : amIn y := am_hd A.ok
  refine va_mmin A.hx A.hb A.ml A.hown (A.w w1 rfl args) (A.w w2 rfl args) (A.w w3 rfl args) (A.w w4 rfl args) (by omega) (by omega) A.cR.1 A.cR.2 hd ?_
  have k := hK _ _ _ hs.2 _ _ _ _ _ _ _ _ _ _ _ _ _ _ _ (A.to (am_all1 (v := aI (if y < x then y else x)) (by
    show amIn _
    split
    · exact oy
    · exact ox) (am_tl (am_tl A.ok))))
  have e1 : (if Int32.ofInt y < Int32.ofInt x then Int32.ofInt y else Int32.ofInt x) = Int32.ofInt (if y < x then y else x) := by
    have e2 := amI_lt oy ox
    by_cases hx : y < x
    · rw [if_pos hx, if_pos (e2.mpr hx)]
    · rw [if_neg hx, if_neg (fun q => hx (e2.mp q))]
  first | (rw [e1]; exact k) | (have e3 : (if Int32.ofInt x > Int32.ofInt y then Int32.ofInt y else Int32.ofInt x) = Int32.ofInt (if y < x then y else x) := e1
                                rw [e3]; exact k)
theorem X_raw {idx a1 a3 : Nat} (he : amOkE M (pc, .invokestatic idx, len, (a1, 14, a3), none)) (hs : amStep G M Q (pc, .invokestatic idx, len, (a1, 14, a3), none) K J ls sk h) (hK : amHK G M Q pc len K) : X G M Q pc ls sk h := by
  obtain ⟨hd, hl, ⟨b1, b2⟩, w1, w2, w3, w4⟩ := he
  cases (show len = 3 from hl)
  intro p e R s m args below meth c Z H locs cells slots LS A
  have hf := A.fR
  revert hs A
  rcases sk with _ | ⟨_ | _ | _ | x | _, r⟩ <;> first | exact fun q => q.elim | skip
  intro hs A
  have hs : amW8 r ∧ K ls (aL x.toInt64 :: r) h := hs
  have hw := am_w8 (B := gB G) hs.1
  exact vn_d2l A.hx A.hb A.ml A.hown (A.w w1 rfl args) (A.w w2 rfl args) (A.w w3 rfl args) (A.w w4 rfl args) (by omega) (by omega) hd (hK _ _ _ hs.2 _ _ _ _ _ _ _ _ _ _ _ _ _ _ _ (A.to (am_all1 (v := aL x.toInt64) trivial (am_tl A.ok))))
theorem amSw_at {J1 : Nat → Prop} {x : Int} : ∀ (l : List Int) (lo : Int) (k : Nat) (off : Int), amSw pc J1 x lo l → l[k]? = some off → x = lo + k → J1 (amJ pc off) := by
  intro l
  induction l with
  | nil => intro lo k off _ h; cases h
  | cons a l ih =>
    intro lo k off hs hk hx
    obtain ⟨h1, h2⟩ := hs
    cases k with
    | zero => cases hk; exact h1 (by omega)
    | succ k => exact ih (lo + 1) k off h2 (by simpa using hk) (by omega)
theorem X_switch {dflt lo hi : Int} {offs : Array Int} (he : amOkE M (pc, .tableswitch dflt lo hi offs, len, aux, S)) (hs : amStep G M Q (pc, .tableswitch dflt lo hi offs, len, aux, S) K J ls sk h) (hJ : amHJ G M Q J) : X G M Q pc ls sk h := by
  obtain ⟨hd, ⟨ho, hn⟩, hoo⟩ := he
  dsimp only at ho hn hoo
  intro p e R s m args below meth c Z H locs cells slots LS A
  revert hs A
  rcases sk with _ | ⟨x | _ | _ | _ | _, r⟩ <;> first | exact fun q => q.elim | skip
  intro hs A
  obtain ⟨h1, h2⟩ := (id hs : _ ∧ _)
  have ox : amIn x := am_hd A.ok
  have e1 := amI_t ox
  by_cases hx : x < lo ∨ hi < x
  · exact lv_tableOut A.hx A.hb hd (by rw [e1]; exact hx) (Int.toNat_of_nonneg ho).symm (hJ _ _ _ _ (h1 hx) _ _ _ _ _ _ _ _ _ _ _ _ _ _ _ (A.to (am_tl A.ok)))
  · have hlt : (x - lo).toNat < offs.size := by omega
    have hg : offs[(x - lo).toNat]? = some offs[(x - lo).toNat] := Array.getElem?_eq_getElem hlt
    have hm : offs[(x - lo).toNat] ∈ offs.toList := Array.getElem_mem_toList hlt
    have h3 := amSw_at offs.toList lo (x - lo).toNat _ h2 (by rw [Array.getElem?_toList]; exact hg) (by omega)
    exact lv_tableIn A.hx A.hb hd (by rw [e1]; omega) (by rw [e1]; omega) (by rw [e1]; exact hg) (Int.toNat_of_nonneg (hoo _ hm)).symm (hJ _ _ _ _ h3 _ _ _ _ _ _ _ _ _ _ _ _ _ _ _ (A.to (am_tl A.ok)))
end HeapRows
