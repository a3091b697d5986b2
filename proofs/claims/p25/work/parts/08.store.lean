/-! ===== the rows of the abstract machine: stores, arrays, what is new ===== -/
theorem u2_row {α : Type} {f : Nat → Nat → α} {a k : Nat} {v : α} {j : Nat} (h : j ≠ a) : ∀ y, u2 f a k v j y = f j y := fun y => u2_ne f v (fun q => h q.1)
theorem u2_oth {α : Type} {f : Nat → Nat → α} {a k : Nat} {v : α} {j : Nat} (h : j ≠ k) : u2 f a k v a j = f a j := u2_ne f v (fun q => h q.2)
theorem amIn_u2 {f : Nat → Nat → Int} {a k : Nat} {v : Int} (h : ∀ x y, amIn (f x y)) (hv : amIn v) : ∀ x y, amIn (u2 f a k v x y) := fun x y => by
  unfold u2
  split
  · exact hv
  · exact h x y
theorem amI_cl {i : Int} (h0 : 0 ≤ i) (h1 : i ≤ 2147483647) : (Int32.ofInt i).toNatClampNeg = i.toNat := by
  show (Int32.ofInt i).toInt.toNat = _
  rw [amI_t ⟨by omega, h1⟩]
theorem amI_vp {i : Int} {n : Nat} (hi : amIn i) (h : 0 ≤ i ∧ i < n) : vp_in (Int32.ofInt i) n := by
  rw [vp_in_iff, amI_t hi]
  exact h
theorem am_upd {α : Type} {f g : Nat → α} {k : Nat} {v : α} (h1 : g k = v) (h2 : ∀ j, j ≠ k → g j = f j) : (fun j => if j = k then v else f j) = g := funext (fun j => by
  by_cases hj : j = k
  · rw [if_pos hj, hj, h1]
  · rw [if_neg hj, h2 j hj])
theorem amCell_pI {B : Nat} {cA : Nat → ClassId} {h : amH} {a k : Nat} {x : Int} {j : Nat} (hj : j ≠ a) (s1 : Nat × Nat) : amCell B cA (hPutI h a k x) j s1 = amCell B cA h j s1 := amCell_eq (h := h) (h' := hPutI h a k x) (u2_row hj) (fun _ => rfl) (fun _ => rfl) s1
theorem amCell_pR {B : Nat} {cA : Nat → ClassId} {h : amH} {a k : Nat} {x : Option Nat} {j : Nat} (hj : j ≠ a) (s1 : Nat × Nat) : amCell B cA (hPutR h a k x) j s1 = amCell B cA h j s1 := amCell_eq (h := h) (h' := hPutR h a k x) (fun _ => rfl) (u2_row hj) (fun _ => rfl) s1
theorem amCell_pL {B : Nat} {cA : Nat → ClassId} {h : amH} {a k : Nat} {x : Int64} {j : Nat} (hj : j ≠ a) (s1 : Nat × Nat) : amCell B cA (hPutL h a k x) j s1 = amCell B cA h j s1 := amCell_eq (h := h) (h' := hPutL h a k x) (fun _ => rfl) (fun _ => rfl) (u2_row hj) s1
theorem amVal_pI {B : Nat} {h : amH} {a k : Nat} {x : Int} {j : Nat} (hj : j ≠ k) (t : Nat) : amVal B (hPutI h a k x) t a j = amVal B h t a j := by
  match t with
  | 0 => show Value.int (Int32.ofInt (u2 h.1 a k x a j)) = _; rw [u2_oth hj]; rfl
  | 1 => rfl
  | _ + 2 => rfl
theorem amVal_pR {B : Nat} {h : amH} {a k : Nat} {x : Option Nat} {j : Nat} (hj : j ≠ k) (t : Nat) : amVal B (hPutR h a k x) t a j = amVal B h t a j := by
  match t with
  | 0 => rfl
  | 1 => show va_rf ((u2 h.2.1 a k x a j).map _) = _; rw [u2_oth hj]; rfl
  | _ + 2 => rfl
theorem amVal_pL {B : Nat} {h : amH} {a k : Nat} {x : Int64} {j : Nat} (hj : j ≠ k) (t : Nat) : amVal B (hPutL h a k x) t a j = amVal B h t a j := by
  match t with
  | 0 => rfl
  | 1 => rfl
  | _ + 2 => show Value.long (u2 h.2.2.1 a k x a j) = _; rw [u2_oth hj]; rfl
section HeapRows
variable {G : amG} {M : amM} {Q : amR → amH → Prop} {p : Program} {e : Env} {R : Room} {s : State} {m : MethodId} {args : Array Value} {below : List Frame} {meth : Method} {c : Code} {Z : State → Prop} {H : Heap} {locs : List Loc} {cells slots : Nat} {LS : Array Slot} {ls : List (Option amV)} {sk : List amV} {h : amH}
variable {K : amK1} {J : amJ1} {pc len : Nat} {aux : Nat × Nat × Nat} {S : Option amS}
theorem X_putfield {idx ci k t : Nat} (he : amOkE M (pc, .putfield idx, len, (ci, k, t), S)) (hs : amStep G M Q (pc, .putfield idx, len, (ci, k, t), S) K J ls sk h) (hK : amHK G M Q pc len K) : X G M Q pc ls sk h := by
  obtain ⟨hd, hl, hF, hN⟩ := he
  cases (show len = 3 from hl)
  dsimp only at hF hN
  intro p e R s m args below meth c Z H locs cells slots LS A
  revert hs A
  rcases sk with _ | ⟨x | v | x | _ | _, _ | ⟨_ | (_ | a) | _ | _ | _, r⟩⟩ <;> first | exact fun q => q.elim | skip
  · intro hs A
    have ht : t = 0 := by
      match t, hs with
      | 0, _ => rfl
      | n + 1, hs => exact hs.elim
    subst ht
    obtain ⟨h0, hs⟩ := (id hs : _ ∧ _)
    exact am_put (v := aI x) (h' := hPutI h a k x) A hF hN hd h0 (Or.inl ⟨rfl, x, rfl⟩) rfl rfl rfl rfl (amIn_u2 A.rel.2.1 (am_hd A.ok)) (fun j hj s1 => amCell_pI hj s1) (by show Value.int (Int32.ofInt (u2 h.1 a k x a k)) = _; rw [u2_same]; rfl) (fun j t' hj => amVal_pI hj t') (hK _ _ _ hs)
  · intro hs A
    have ht : t = 1 := by
      match t, hs with
      | 1, _ => rfl
      | 0, hs => exact hs.elim
      | n + 2, hs => exact hs.elim
    subst ht
    obtain ⟨h0, hs⟩ := (id hs : _ ∧ _)
    exact am_put (v := aR v) (h' := hPutR h a k v) A hF hN hd h0 (Or.inr (Or.inl ⟨rfl, v, rfl⟩)) rfl rfl rfl rfl A.rel.2.1 (fun j hj s1 => amCell_pR hj s1) (by show va_rf ((u2 h.2.1 a k v a k).map _) = _; rw [u2_same]; cases v <;> rfl) (fun j t' hj => amVal_pR hj t') (hK _ _ _ hs)
  · intro hs A
    have ht : t = 2 := by
      match t, hs with
      | 2, _ => rfl
      | 0, hs => exact hs.elim
      | 1, hs => exact hs.elim
      | n + 3, hs => exact hs.elim
    subst ht
    obtain ⟨h0, hs⟩ := (id hs : _ ∧ _)
    exact am_put (v := aL x) (h' := hPutL h a k x) A hF hN hd h0 (Or.inr (Or.inr ⟨rfl, x, rfl⟩)) rfl rfl rfl rfl A.rel.2.1 (fun j hj s1 => amCell_pL hj s1) (by show Value.long (u2 h.2.2.1 a k x a k) = _; rw [u2_same]; rfl) (fun j t' hj => amVal_pL hj t') (hK _ _ _ hs)
theorem am_ty (G : amG) (k : Nat) (hk : k < 5) : (amTys G)[k]? = some (gA G (20 + k), amAK (20 + k)) := by
  match k, hk with
  | 0, _ => rfl
  | 1, _ => rfl
  | 2, _ => rfl
  | 3, _ => rfl
  | 4, _ => rfl
theorem am_c20 (B : Nat) (cA : Nat → ClassId) (h : amH) (a n : Nat) : amCell B cA h a (20, n) = .inl (cA 20, n, .inl (fun j => Int32.ofInt (hI h a j))) := rfl
theorem am_c21 (B : Nat) (cA : Nat → ClassId) (h : amH) (a n : Nat) : amCell B cA h a (21, n) = .inl (cA 21, n, .inr (.inl (fun j => hL h a j))) := rfl
theorem am_c22 (B : Nat) (cA : Nat → ClassId) (h : amH) (a n kd : Nat) (hk : 22 ≤ kd ∧ kd ≤ 24) : amCell B cA h a (kd, n) = .inl (cA kd, n, .inr (.inr (.inr (.inr (fun j => (hR h a j).map (B + ·)))))) := by
  unfold amCell
  rw [if_neg (by show ¬ kd < 11; omega), if_neg (by show ¬ kd = 20; omega), if_neg (by show ¬ kd = 21; omega)]
theorem X_iaload (he : amOkE M (pc, .iaload, len, aux, S)) (hs : amStep G M Q (pc, .iaload, len, aux, S) K J ls sk h) (hK : amHK G M Q pc len K) : X G M Q pc ls sk h := by
  obtain ⟨hd, hl⟩ := he
  cases (show len = 1 from hl)
  intro p e R s m args below meth c Z H locs cells slots LS A
  revert hs A
  rcases sk with _ | ⟨i | _ | _ | _ | _, _ | ⟨_ | (_ | a) | _ | _ | a, r⟩⟩ <;> first | exact fun q => q.elim | skip
  · intro hs A
    obtain ⟨n, h0, hin, hs⟩ := (id hs : ∃ _, _)
    have e2 := amWs_at (B := gB G) (cA := gA G) h0
    have k := hK _ _ _ hs _ _ _ _ _ _ _ _ _ _ _ _ _ _ _ (A.to (am_all1 (v := aI (hI h a i.toNat)) (A.rel.2.1 _ _) (am_tl (am_tl A.ok))))
    have oi : amIn i := am_hd A.ok
    have ei := amI_cl hin.1 oi.2
    refine va_iald A.hx A.hb A.k A.rel.1 a 0 e2 (am_ty G 0 (by decide)) (amI_vp oi hin) hd ?_
    rw [ei]
    exact k
  · intro hs A
    obtain ⟨e0, hin, hq⟩ := (id hs : _ ∧ _ ∧ _)
    subst e0
    have k := hK _ _ _ hq _ _ _ _ _ _ _ _ _ _ _ _ _ _ _ (A.to (am_all1 (v := aI (gx G i.toNat).toInt) (amI_in _) (am_tl (am_tl A.ok))))
    have oi : amIn i := am_hd A.ok
    have ei := amI_cl hin.1 oi.2
    obtain ⟨scr, x1, x2, x3, x4, x5⟩ := A.1.2.2.2.1
    have hX : va_X (gb G) (gn G) (gx G) s H := ⟨scr, by rw [A.rel.2.2.1 _ A.1.2.2.2.2.1]; exact x1, State.isArrayOf_alike A.hW.alike x2, x3, x4, x5⟩
    have hlt : (Int32.ofInt i).toNatClampNeg < gn G := by rw [ei]; omega
    obtain ⟨scr, x1, x2, x3, x4, x5⟩ := hX
    refine W.iald (v := .int (gx G i.toNat)) A.hx A.hb x1 x2 x3 (by rw [x4]; exact amI_vp oi hin) (by rw [ei]; exact x5 _ (by omega)) rfl rfl hd ?_
    rw [← amI_of (gx G i.toNat)]
    exact k
theorem X_arraylength (he : amOkE M (pc, .arraylength, len, aux, S)) (hs : amStep G M Q (pc, .arraylength, len, aux, S) K J ls sk h) (hK : amHK G M Q pc len K) : X G M Q pc ls sk h := by
  obtain ⟨hd, hl⟩ := he
  cases (show len = 1 from hl)
  intro p e R s m args below meth c Z H locs cells slots LS A
  revert hs A
  rcases sk with _ | ⟨_ | (_ | a) | _ | _ | a, r⟩ <;> first | exact fun q => q.elim | skip
  · intro hs A
    obtain ⟨kd, n, h0, hkd, hs⟩ := (id hs : ∃ _, _)
    have e2 := amWs_at (B := gB G) (cA := gA G) h0
    have k := hK _ _ _ hs _ _ _ _ _ _ _ _ _ _ _ _ _ _ _ (A.to (am_all1 (v := aI n) (show amIn n from ⟨by omega, by omega⟩) (am_tl A.ok)))
    have ev : Int32.ofNat n = Int32.ofInt n := (Int32.ofInt_eq_ofNat).symm
    obtain ⟨k0, hk1, hk2⟩ : ∃ k0, k0 < 5 ∧ kd = 20 + k0 := ⟨kd - 20, by omega, by omega⟩
    subst hk2
    have ec : ∃ x : vp_A, amCell (gB G) (gA G) h a (20 + k0, n) = .inl (gA G (20 + k0), x) ∧ x.1 = n := by
      match k0, hk1 with
      | 0, _ => exact ⟨_, rfl, rfl⟩
      | 1, _ => exact ⟨_, rfl, rfl⟩
      | 2, _ => exact ⟨_, rfl, rfl⟩
      | 3, _ => exact ⟨_, rfl, rfl⟩
      | 4, _ => exact ⟨_, rfl, rfl⟩
    obtain ⟨x, ex, en⟩ := ec
    rw [ex] at e2
    refine va_alen A.hx A.hb A.k A.rel.1 a k0 e2 (am_ty G k0 hk1) (v := Int32.ofInt n) (by rw [en, ev]) hd ?_
    exact k
  · intro hs A
    obtain ⟨e0, hq⟩ := (id hs : _ ∧ _)
    subst e0
    have hn := A.1.2.2.2.2.2.1
    have k := hK _ _ _ hq _ _ _ _ _ _ _ _ _ _ _ _ _ _ _ (A.to (am_all1 (v := aI (gn G)) (show amIn (gn G) from ⟨by omega, by omega⟩) (am_tl A.ok)))
    obtain ⟨scr, x1, x2, x3, x4, x5⟩ := A.1.2.2.2.1
    refine W.alen (n := Int32.ofInt (gn G)) A.hx A.hb (by rw [A.rel.2.2.1 _ A.1.2.2.2.2.1]; exact x1) (State.isArrayOf_alike A.hW.alike x2) (by rw [x4]; exact (Int32.ofInt_eq_ofNat).symm) rfl rfl hd ?_
    exact k
theorem X_iastore (he : amOkE M (pc, .iastore, len, aux, S)) (hs : amStep G M Q (pc, .iastore, len, aux, S) K J ls sk h) (hK : amHK G M Q pc len K) : X G M Q pc ls sk h := by
  obtain ⟨hd, hl⟩ := he
  cases (show len = 1 from hl)
  intro p e R s m args below meth c Z H locs cells slots LS A
  revert hs A
  rcases sk with _ | ⟨x | _ | _ | _ | _, _ | ⟨i | _ | _ | _ | _, _ | ⟨_ | (_ | a) | _ | _ | _, r⟩⟩⟩ <;> first | exact fun q => q.elim | skip
  intro hs A
  obtain ⟨n, h0, hin, hs⟩ := (id hs : ∃ _, _)
  have oi : amIn i := am_hd (am_tl A.ok)
  have ei := amI_cl hin.1 oi.2
  refine W.iast A.hx A.hb (A.rel.1 a _ (amWs_at h0)) ((A.k.2 0 _ (am_ty G 0 (by decide))).1 n (fun j => .int (Int32.ofInt (hI h a j)))) (fun q => by cases q) (by show ¬ (_ ∨ (arrV _ _ _).slots.size ≤ _); rw [arrV_size]; exact amI_vp oi hin) rfl rfl hd (fun H1 e1 z oq => ?_)
  refine hK _ _ _ hs _ _ _ _ _ _ _ _ _ _ _ _ _ _ _ (A.world (amRel_set A.rel h0 rfl rfl (amIn_u2 A.rel.2.1 (am_hd A.ok)) (fun j hj s1 => amCell_pI hj s1) ?_ z oq) (Nat.le_of_eq z.symm) (am_locs A.2.2.2.2.2.1) A.2.2.2.2.2.2.1 A.2.2.2.2.2.2.2.1 (am_tl (am_tl (am_tl A.ok))))
  show H1[gB G + a]? = some (vp_cell _ _)
  rw [e1, ei]
  show some ((vp_cell (gA G 20) (n, .inl _)).setSlot _ _) = some (vp_cell (gA G 20) (n, .inl _))
  rw [vp_cell_i, vp_cell_i, arrV_store]
  congr 2
  exact am_upd (by show Value.int (Int32.ofInt (u2 h.1 a i.toNat x a i.toNat)) = _; rw [u2_same]) (fun j hj => by show Value.int (Int32.ofInt (u2 h.1 a i.toNat x a j)) = _; rw [u2_oth hj])
theorem am_AK {kd : Nat} (hk : 22 ≤ kd ∧ kd ≤ 24) : ∃ (C : String) (T : u_T) (N : Nat), vwCl[amAC kd]? = some (C, T, N) ∧ amAK kd = .object C := by
  obtain ⟨k0, hk1, rfl⟩ : ∃ k0, k0 < 3 ∧ kd = 22 + k0 := ⟨kd - 22, by omega, by omega⟩
  match k0, hk1 with
  | 0, _ => exact ⟨_, _, _, rfl, rfl⟩
  | 1, _ => exact ⟨_, _, _, rfl, rfl⟩
  | 2, _ => exact ⟨_, _, _, rfl, rfl⟩
theorem X_aaload (he : amOkE M (pc, .aaload, len, aux, S)) (hs : amStep G M Q (pc, .aaload, len, aux, S) K J ls sk h) (hK : amHK G M Q pc len K) : X G M Q pc ls sk h := by
  obtain ⟨hd, hl⟩ := he
  cases (show len = 1 from hl)
  intro p e R s m args below meth c Z H locs cells slots LS A
  revert hs A
  rcases sk with _ | ⟨i | _ | _ | _ | _, _ | ⟨_ | (_ | a) | _ | _ | _, r⟩⟩ <;> first | exact fun q => q.elim | skip
  intro hs A
  obtain ⟨kd, n, h0, hkd, hin, b, hb, hs⟩ := (id hs : ∃ _, _)
  have k := hK _ _ _ hs _ _ _ _ _ _ _ _ _ _ _ _ _ _ _ (A.to (am_all1 (v := aR (some b)) trivial (am_tl (am_tl A.ok))))
  have oi : amIn i := am_hd A.ok
  have ei := amI_cl hin.1 oi.2
  have e2 := amWs_at (B := gB G) (cA := gA G) h0
  rw [am_c22 _ _ _ _ _ _ hkd] at e2
  obtain ⟨C, T, N, -, hC⟩ := am_AK hkd
  have ht := am_ty G (kd - 20) (by omega)
  rw [show 20 + (kd - 20) = kd by omega, hC] at ht
  refine va_aldq A.hx A.hb A.k A.rel.1 a (kd - 20) e2 ht (amI_vp oi hin) hd ?_
  rw [ei]
  have e3 : va_rf ((hR h a i.toNat).map (gB G + ·)) = amRv (gB G) (aR (some b)) := by rw [hb]; rfl
  rw [e3]
  exact k
theorem X_aastore (he : amOkE M (pc, .aastore, len, aux, S)) (hs : amStep G M Q (pc, .aastore, len, aux, S) K J ls sk h) (hK : amHK G M Q pc len K) : X G M Q pc ls sk h := by
  obtain ⟨hd, hl⟩ := he
  cases (show len = 1 from hl)
  intro p e R s m args below meth c Z H locs cells slots LS A
  revert hs A
  rcases sk with _ | ⟨_ | (_ | v) | _ | _ | _, _ | ⟨i | _ | _ | _ | _, _ | ⟨_ | (_ | a) | _ | _ | _, r⟩⟩⟩ <;> first | exact fun q => q.elim | skip
  intro hs A
  obtain ⟨kd, n, h0, hkd, hv, hin, hs⟩ := (id hs : ∃ _, _)
  have oi : amIn i := am_hd (am_tl A.ok)
  have ei := amI_cl hin.1 oi.2
  have e2 := amWs_at (B := gB G) (cA := gA G) h0
  rw [am_c22 _ _ _ _ _ _ hkd] at e2
  obtain ⟨C, T, N, hc, hC⟩ := am_AK hkd
  obtain ⟨hci, -⟩ := amCls _ C T N hc
  have ev := amWs_at (B := gB G) (cA := gA G) hv
  rw [show amCell (gB G) (gA G) h v (amAC kd, 0) = .inr (amAC kd, amFs (gB G) h (amAC kd) v) from if_pos hci] at ev
  have ht := am_ty G (kd - 20) (by omega)
  rw [show 20 + (kd - 20) = kd by omega, hC] at ht
  obtain ⟨r', hr', cellV, g1, g2, g3, -⟩ := A.rel.1 v _ ev
  have hcls := (A.k.1 _ _ hc).2
  obtain ⟨kA, comp, k1, k2, k3, -⟩ := (A.k.2 (kd - 20) _ ht).2
  have hcomp : comp = (gD G).1 (amAC kd) := Option.some.inj (k3.symm.trans hcls.1)
  subst hcomp
  obtain ⟨kC, hkC, -⟩ := id hcls.2
  have hlt : (Int32.ofInt i).toNatClampNeg < n := by rw [ei]; omega
  refine W.aast A.hx A.hb (A.rel.1 a _ e2) (fun q h => by cases h) (fun h => by cases h) k1 k2 rfl hkC ⟨fun q => (amI_vp oi hin) (Or.inl q), by show _ < (arrV _ _ _).slots.size; rw [arrV_size]; exact hlt⟩ g1 (fun q h => by rw [g3] at h; cases h) (by rw [g2]; exact hkC) (by rw [g2]; exact va_assign hcls) rfl rfl hd (fun H1 e1 z oq => ?_)
  refine hK _ _ _ hs _ _ _ _ _ _ _ _ _ _ _ _ _ _ _ (A.world (amRel_set A.rel h0 rfl rfl A.rel.2.1 (fun j hj s1 => amCell_pR hj s1) ?_ z oq) (Nat.le_of_eq z.symm) (am_locs A.2.2.2.2.2.1) A.2.2.2.2.2.2.1 A.2.2.2.2.2.2.2.1 (am_tl (am_tl (am_tl A.ok))))
  rw [am_c22 _ _ _ _ _ _ hkd]
  show H1[gB G + a]? = some (vp_cell _ _)
  rw [e1, ei]
  show some ((vp_cell (gA G kd) (n, .inr (.inr (.inr (.inr _))))).setSlot _ _) = some (vp_cell (gA G kd) (n, .inr (.inr (.inr (.inr _)))))
  rw [vp_cell_q, vp_cell_q, arrV_store]
  congr 2
  exact am_upd (by show va_rf ((u2 h.2.1 a i.toNat (some v) a i.toNat).map _) = _; rw [u2_same]; rfl) (fun j hj => by show va_rf ((u2 h.2.1 a i.toNat (some v) a j).map _) = _; rw [u2_oth hj])
end HeapRows
