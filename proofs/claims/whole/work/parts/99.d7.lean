/-! ===== the law's wrappers ===== -/
theorem E_shape {G : amG} {I : Nat → Nat → Int} {R : Nat → Nat → Option Nat} {L : Nat → Nat → Int64} {x c t : Nat} {Q : amR → amH → Prop} (hG : amG0 G) (hRK : RK R) {z : Row} {n : Int} {zs : Nat → Row} (hC : CS I R z n zs) (hZ : ZF z) {u v w : Int} (hT0 : ¬ ((0 ≤ u ∧ u ≤ 95) ∧ 0 ≤ v ∧ v ≤ 95) → QW Q I L (Sum.inl (some (aI 1))) z n zs) (hT1 : ((0 ≤ u ∧ u ≤ 95) ∧ 0 ≤ v ∧ v ≤ 95) ∧ ¬ ((u % 12 ≤ v % 12 ∧ u / 12 ≤ v / 12) ∧ 0 ≤ w ∧ w ≤ 9) → QW Q I L (Sum.inl (some (aI 2))) z n zs) (hQ : ((0 ≤ u ∧ u ≤ 95) ∧ 0 ≤ v ∧ v ≤ 95) ∧ ((u % 12 ≤ v % 12 ∧ u / 12 ≤ v / 12) ∧ 0 ≤ w ∧ w ≤ 9) → QW Q I (u2 L 369 0 (Int64.ofInt ((shZ z u v w (v - u + 1).toNat).2))) (Sum.inl (some (aI 0))) (shZ z u v w (v - u + 1).toNat).1 (svN n) (svZ n zs z)) : CT G sL_shape [aR (some 0), aI u, aI v, aI w, aR (some 369)] (I, R, L, SH, x, c, t) Q := by
  refine CT_of ok_L_shape hG (Nat.le_of_ble_eq_true rfl) ?_
  show X G mL_shape Q 0 _ [] (I, R, L, SH, x, 3, 18)
  refine B_L_shape_0 ⟨⟨Nat.le_refl _, Nat.le_refl _, Nat.le_of_ble_eq_true rfl⟩, so0, ?_⟩
  refine D_shape hG hRK hC hZ ?_ ?_ ?_
  · intro p J R' x' c' t' j1 j2 j3 j4 j5
    exact af_T (by decide +kernel) (fun q => B_L_shape_15 (hT0 p J R' x' _ _ j1 j2 j3 j4 j5))
  · intro p J R' x' c' t' j1 j2 j3 j4 j5
    exact af_T (by decide +kernel) (fun q => B_L_shape_19 (hT1 p J R' x' _ _ j1 j2 j3 j4 j5))
  · intro p J R' x' c' t' j1 j2 j3 j4 j5
    refine af_I (cc := 3) (tt := 18) rfl rfl (by decide) ?_
    refine B_L_shape_10 ⟨_, sh369, ⟨by decide, by decide⟩, B_L_shape_23 ?_⟩
    exact hQ p J R' x' _ _ j1 j2 j3 j4 j5
theorem E_moveGeneral {G : amG} {I : Nat → Nat → Int} {R : Nat → Nat → Option Nat} {L : Nat → Nat → Int64} {x c t : Nat} {Q : amR → amH → Prop} (hG : amG0 G) (hRK : RK R) {z : Row} {n : Int} {zs : Nat → Row} (hC : CS I R z n zs) (hZ : ZF z) {u v : Int} (hT0 : ¬ ((0 ≤ u ∧ u ≤ 1) ∧ 0 ≤ v ∧ v ≤ 95) → QW Q I L (Sum.inl (some (aI 1))) z n zs) (hQ : ((0 ≤ u ∧ u ≤ 1) ∧ 0 ≤ v ∧ v ≤ 95) → QW Q I (u2 L 369 0 (Int64.ofInt (z (96 + u).toNat))) (Sum.inl (some (aI 0))) (uz z (96 + u).toNat v) (svN n) (svZ n zs z)) : CT G sL_moveGeneral [aR (some 0), aI u, aI v, aR (some 369)] (I, R, L, SH, x, c, t) Q := by
  refine CT_of ok_L_moveGeneral hG (Nat.le_of_ble_eq_true rfl) ?_
  show X G mL_moveGeneral Q 0 _ [] (I, R, L, SH, x, 2, 12)
  refine B_L_moveGeneral_0 ⟨⟨Nat.le_refl _, Nat.le_refl _, Nat.le_of_ble_eq_true rfl⟩, so0, ?_⟩
  refine D_moveGeneral hG hRK hC hZ ?_ ?_
  · intro p J R' x' c' t' j1 j2 j3 j4 j5
    exact af_T (by decide +kernel) (fun q => B_L_moveGeneral_13 (hT0 p J R' x' _ _ j1 j2 j3 j4 j5))
  · intro p J R' x' c' t' j1 j2 j3 j4 j5
    refine af_I (cc := 2) (tt := 12) rfl rfl (by decide) ?_
    refine B_L_moveGeneral_8 ⟨_, sh369, ⟨by decide, by decide⟩, B_L_moveGeneral_17 ?_⟩
    exact hQ p J R' x' _ _ j1 j2 j3 j4 j5
theorem E_addTroop {G : amG} {I : Nat → Nat → Int} {R : Nat → Nat → Option Nat} {L : Nat → Nat → Int64} {x c t : Nat} {Q : amR → amH → Prop} (hG : amG0 G) (hRK : RK R) {z : Row} {n : Int} {zs : Nat → Row} (hC : CS I R z n zs) (hZ : ZF z) {u v w : Int} (hT0 : ¬ ((0 ≤ u ∧ u ≤ 1) ∧ 0 ≤ v ∧ v ≤ 95) → QW Q I L (Sum.inl (some (aI 1))) z n zs) (hT1 : ((0 ≤ u ∧ u ≤ 1) ∧ 0 ≤ v ∧ v ≤ 95) ∧ ¬ (1 ≤ w ∧ w ≤ 20) → QW Q I L (Sum.inl (some (aI 2))) z n zs) (hT2 : ((0 ≤ u ∧ u ≤ 1) ∧ 0 ≤ v ∧ v ≤ 95) ∧ (1 ≤ w ∧ w ≤ 20) ∧ (z 98 = 12 ∨ tAt z v ≠ -1) → QW Q I L (Sum.inl (some (aI 3))) z n zs) (hQ : ((0 ≤ u ∧ u ≤ 1) ∧ 0 ≤ v ∧ v ≤ 95) ∧ (1 ≤ w ∧ w ≤ 20) ∧ ¬ (z 98 = 12 ∨ tAt z v ≠ -1) → QW Q I (u2 L 369 0 (Int64.ofInt (z 98))) (Sum.inl (some (aI 0))) (adZ z (z 98).toNat u v w) (svN n) (svZ n zs z)) : CT G sL_addTroop [aR (some 0), aI u, aI v, aI w, aR (some 369)] (I, R, L, SH, x, c, t) Q := by
  refine CT_of ok_L_addTroop hG (Nat.le_of_ble_eq_true rfl) ?_
  show X G mL_addTroop Q 0 _ [] (I, R, L, SH, x, 3, 18)
  refine B_L_addTroop_0 ⟨⟨Nat.le_refl _, Nat.le_refl _, Nat.le_of_ble_eq_true rfl⟩, so0, ?_⟩
  refine D_addTroop hG hRK hC hZ ?_ ?_ ?_ ?_
  · intro p J R' x' c' t' j1 j2 j3 j4 j5
    exact af_T (by decide +kernel) (fun q => B_L_addTroop_15 (hT0 p J R' x' _ _ j1 j2 j3 j4 j5))
  · intro p J R' x' c' t' j1 j2 j3 j4 j5
    exact af_T (by decide +kernel) (fun q => B_L_addTroop_19 (hT1 p J R' x' _ _ j1 j2 j3 j4 j5))
  · intro p J R' x' c' t' j1 j2 j3 j4 j5
    exact af_T (by decide +kernel) (fun q => B_L_addTroop_23 (hT2 p J R' x' _ _ j1 j2 j3 j4 j5))
  · intro p J R' x' c' t' j1 j2 j3 j4 j5
    refine af_I (cc := 3) (tt := 18) rfl rfl (by decide) ?_
    refine B_L_addTroop_10 ⟨_, sh369, ⟨by decide, by decide⟩, B_L_addTroop_27 ?_⟩
    exact hQ p J R' x' _ _ j1 j2 j3 j4 j5
theorem E_order {G : amG} {I : Nat → Nat → Int} {R : Nat → Nat → Option Nat} {L : Nat → Nat → Int64} {x c t : Nat} {Q : amR → amH → Prop} (hG : amG0 G) (hRK : RK R) {z : Row} {n : Int} {zs : Nat → Row} (hC : CS I R z n zs) (hZ : ZF z) {k v : Int} (hT0 : ¬ ((0 ≤ k ∧ k < z 98) ∧ 0 ≤ v ∧ v ≤ 95) → QW Q I L (Sum.inl (some (aI 1))) z n zs) (hT2 : ((0 ≤ k ∧ k < z 98) ∧ 0 ≤ v ∧ v ≤ 95) ∧ whyN z k.toNat ≠ 0 → QW Q I L (Sum.inl (some (aI 2))) z n zs) (hQ : ((0 ≤ k ∧ k < z 98) ∧ 0 ≤ v ∧ v ≤ 95) ∧ whyN z k.toNat = 0 → QW Q I (u2 L 369 0 (Int64.ofInt (ordG z k.toNat))) (Sum.inl (some (aI 0))) (giveZ z k v) (svN n) (svZ n zs z)) : CT G sL_order [aR (some 0), aI k, aI v, aR (some 369)] (I, R, L, SH, x, c, t) Q := by
  refine CT_of ok_L_order hG (Nat.le_of_ble_eq_true rfl) ?_
  show X G mL_order Q 0 _ [] (I, R, L, SH, x, 3, 18)
  refine B_L_order_0 ⟨⟨Nat.le_refl _, Nat.le_refl _, Nat.le_of_ble_eq_true rfl⟩, so0, ?_⟩
  refine D_order hG hRK hC hZ ?_ ?_ ?_
  · intro p J R' x' c' t' j1 j2 j3 j4 j5
    exact af_T (by decide +kernel) (fun q => B_L_order_13 (hT0 p J R' x' _ _ j1 j2 j3 j4 j5))
  · intro p J R' x' c' t' j1 j2 j3 j4 j5
    exact af_T (by decide +kernel) (fun q => B_L_order_17 (hT2 p J R' x' _ _ j1 j2 j3 j4 j5))
  · intro p J R' x' c' t' j1 j2 j3 j4 j5
    refine af_I (cc := 3) (tt := 18) rfl rfl (by decide) ?_
    refine B_L_order_8 ⟨_, sh369, ⟨by decide, by decide⟩, B_L_order_21 ?_⟩
    exact hQ p J R' x' _ _ j1 j2 j3 j4 j5
theorem E_pass {G : amG} {I : Nat → Nat → Int} {R : Nat → Nat → Option Nat} {L : Nat → Nat → Int64} {x c t : Nat} {Q : amR → amH → Prop} (hG : amG0 G) (hRK : RK R) {z : Row} {n : Int} {zs : Nat → Row} (hC : CS I R z n zs) (hZ : ZF z) {u : Int} (hT1 : ¬ (1 ≤ u ∧ u ≤ 50) → QW Q I L (Sum.inl (some (aI 1))) z n zs) (hT2 : (1 ≤ u ∧ u ≤ 50) ∧ 1000 < z 316 + u → QW Q I L (Sum.inl (some (aI 2))) z n zs) (hQ : (1 ≤ u ∧ u ≤ 50) ∧ z 316 + u ≤ 1000 → QW Q I (u2 L 369 0 (Int64.ofInt (passN z u.toNat 319 + passN z u.toNat 320 - (z 319 + z 320)))) (Sum.inl (some (aI 0))) (passN z u.toNat) (svN n) (svZ n zs z)) : CT G sL_pass [aR (some 0), aI u, aR (some 369)] (I, R, L, SH, x, c, t) Q := by
  refine CT_of ok_L_pass hG (Nat.le_of_ble_eq_true rfl) ?_
  show X G mL_pass Q 0 _ [] (I, R, L, SH, x, 2, 12)
  refine B_L_pass_0 ⟨⟨Nat.le_refl _, Nat.le_refl _, Nat.le_of_ble_eq_true rfl⟩, so0, ?_⟩
  refine D_pass hG hRK hC hZ ?_ ?_ ?_
  · intro p J R' x' c' t' j1 j2 j3 j4 j5
    exact af_T (by decide +kernel) (fun q => B_L_pass_12 (hT1 p J R' x' _ _ j1 j2 j3 j4 j5))
  · intro p J R' x' c' t' j1 j2 j3 j4 j5
    exact af_T (by decide +kernel) (fun q => B_L_pass_15 (hT2 p J R' x' _ _ j1 j2 j3 j4 j5))
  · intro p J R' x' c' t' j1 j2 j3 j4 j5
    refine af_I (cc := 2) (tt := 12) rfl rfl (by decide) ?_
    refine B_L_pass_7 ⟨_, sh369, ⟨by decide, by decide⟩, B_L_pass_18 ?_⟩
    exact hQ p J R' x' _ _ j1 j2 j3 j4 j5
theorem E_append {G : amG} {I : Nat → Nat → Int} {R : Nat → Nat → Option Nat} {L : Nat → Nat → Int64} {x c t : Nat} {Q : amR → amH → Prop} (hG : amG0 G) (hRK : RK R) {z : Row} {n : Int} {zs : Nat → Row} (hC : CS I R z n zs) (hZ : ZF z) {v : Int} (hl : 0 ≤ I 346 1 ∧ I 346 1 ≤ 60) (hT1 : ¬ (33 ≤ v ∧ v ≤ 126) → QW Q I L (Sum.inl (some (aI 1))) z n zs) (hT2 : (33 ≤ v ∧ v ≤ 126) ∧ I 346 1 = 60 → QW Q I L (Sum.inl (some (aI 2))) z n zs) (hQ : (33 ≤ v ∧ v ≤ 126) ∧ I 346 1 ≠ 60 → ∀ (J : Nat → Nat → Int) (R' : Nat → Nat → Option Nat) (x c t : Nat), (∀ a : Nat, 361 ≤ a → J a = I a) → J 346 1 = I 346 1 + 1 → J 347 = uz (I 347) (I 346 1).toNat v → RK R' → CS J R' z n zs → Q (Sum.inl (some (aI 0))) (J, R', (u2 L 369 0 (Int64.ofInt (I 346 1 + 1))), SH, x, c, t)) : CT G sL_append [aR (some 0), aI v, aR (some 369)] (I, R, L, SH, x, c, t) Q := by
  refine CT_of ok_L_append hG (Nat.le_of_ble_eq_true rfl) ?_
  show X G mL_append Q 0 _ [] (I, R, L, SH, x, 1, 6)
  refine B_L_append_0 ⟨⟨Nat.le_refl _, Nat.le_refl _, Nat.le_of_ble_eq_true rfl⟩, so0, ?_⟩
  refine D_append hG hRK hC hZ hl ?_ ?_ ?_
  · intro p J R' x' c' t' j1 j2 j3 j4 j5
    exact af_T (by decide +kernel) (fun q => B_L_append_12 (hT1 p J R' x' _ _ j1 j2 j3 j4 j5))
  · intro p J R' x' c' t' j1 j2 j3 j4 j5
    exact af_T (by decide +kernel) (fun q => B_L_append_15 (hT2 p J R' x' _ _ j1 j2 j3 j4 j5))
  · intro p J R' x' c' t' j1 j2 j3 j4 j5
    refine af_I (cc := 1) (tt := 6) rfl rfl (by decide) ?_
    refine B_L_append_7 ⟨_, sh369, ⟨by decide, by decide⟩, B_L_append_18 ?_⟩
    exact hQ p J R' x' _ _ j1 j2 j3 j4 j5
theorem E_load {G : amG} {I : Nat → Nat → Int} {R : Nat → Nat → Option Nat} {L : Nat → Nat → Int64} {x c t : Nat} {Q : amR → amH → Prop} (hG : amG0 G) (hRK : RK R) {z : Row} {n : Int} {zs : Nat → Row} (hC : CS I R z n zs) (hZ : ZF z) (hg : z 317 ≤ 70000) (hl : 0 ≤ I 346 1 ∧ I 346 1 ≤ 60) (hT : ∀ k : Nat, k < 60 → 0 ≤ I 347 k ∧ I 347 k ≤ 1000) {r0 : Row} (hT1 : sgN (I 347) (I 346 1).toNat ≠ 7 → QW Q I L (Sum.inl (some (aI 1))) z n zs) (hQ : ∀ s : TS, pS (I 347) r0 (I 346 1).toNat = some s → s.1 = 2 → 0 < s.2.1 → ∀ m : Nat, (m : Int) ≤ s.2.2.1 + 1 → (∀ i : Nat, i < m → ldC z s.2.2.2 i) → ((m : Int) = s.2.2.1 + 1 ∨ ¬ ldC z s.2.2.2 m) → ∀ (J : Nat → Nat → Int) (R' : Nat → Nat → Option Nat) (x c t : Nat), (∀ a : Nat, 361 ≤ a → J a = I a) → J 346 1 = 0 → J 347 = I 347 → RK R' → CS J R' (ldZ z s.2.2.2 m) (svN n) (svZ n zs z) → Q (Sum.inl (some (aI 0))) (J, R', (u2 L 369 0 (Int64.ofInt m)), SH, x, c, t)) : CT G sL_load [aR (some 0), aR (some 369)] (I, R, L, SH, x, c, t) Q := by
  refine CT_of ok_L_load hG (Nat.le_of_ble_eq_true rfl) ?_
  show X G mL_load Q 0 _ [] (I, R, L, SH, x, 1, 6)
  refine B_L_load_0 ⟨⟨Nat.le_refl _, Nat.le_refl _, Nat.le_of_ble_eq_true rfl⟩, so0, ?_⟩
  refine D_load (r0 := r0) hG hRK hC hZ hg hl hT ?_ ?_
  · intro p J R' x' c' t' j1 j2 j3 j4 j5
    exact af_T (by decide +kernel) (fun q => B_L_load_11 (hT1 p J R' x' _ _ j1 j2 j3 j4 j5))
  · intro s p1 p2 p3 m m1 m2 m3 J R' x' c' t' j1 j2 j3 j4 j5
    refine af_I (cc := 1) (tt := 6) rfl rfl (by decide) ?_
    refine B_L_load_6 ⟨_, sh369, ⟨by decide, by decide⟩, B_L_load_14 ?_⟩
    exact hQ s p1 p2 p3 m m1 m2 m3 J R' x' _ _ j1 j2 j3 j4 j5
theorem E_undo {G : amG} {I : Nat → Nat → Int} {R : Nat → Nat → Option Nat} {L : Nat → Nat → Int64} {x c t : Nat} {Q : amR → amH → Prop} (hG : amG0 G) (hRK : RK R) {z : Row} {n : Int} {zs : Nat → Row} (hC : CS I R z n zs) (hZ : ZF z) (hT2 : n = 0 → QW Q I L (Sum.inl (some (aI 1))) z n zs) (hQ : 0 < n → QW Q I (u2 L 369 0 (Int64.ofInt (n - 1))) (Sum.inl (some (aI 0))) (zs (n - 1).toNat) (n - 1) zs) : CT G sL_undo [aR (some 0), aR (some 369)] (I, R, L, SH, x, c, t) Q := by
  refine CT_of ok_L_undo hG (Nat.le_of_ble_eq_true rfl) ?_
  show X G mL_undo Q 0 _ [] (I, R, L, SH, x, 1, 6)
  refine B_L_undo_0 ⟨⟨Nat.le_refl _, Nat.le_refl _, Nat.le_of_ble_eq_true rfl⟩, so0, ?_⟩
  refine D_undo hG hRK hC hZ ?_ ?_
  · intro p J R' x' c' t' j1 j2 j3 j4 j5
    exact af_T (by decide +kernel) (fun q => B_L_undo_11 (hT2 p J R' x' _ _ j1 j2 j3 j4 j5))
  · intro p J R' x' c' t' j1 j2 j3 j4 j5
    refine af_I (cc := 1) (tt := 6) rfl rfl (by decide) ?_
    refine B_L_undo_6 ⟨_, sh369, ⟨by decide, by decide⟩, B_L_undo_14 ?_⟩
    exact hQ p J R' x' _ _ j1 j2 j3 j4 j5
theorem E_cell {G : amG} {I : Nat → Nat → Int} {R : Nat → Nat → Option Nat} {L : Nat → Nat → Int64} {x c t : Nat} {Q : amR → amH → Prop} (hG : amG0 G) (hRK : RK R) {z : Row} {n : Int} {zs : Nat → Row} (hC : CS I R z n zs) (hZ : ZF z) {v w : Int} (hT0 : ¬ (0 ≤ v ∧ v ≤ 95) → QW Q I L (Sum.inl (some (aI 1))) z n zs) (hT1 : (0 ≤ v ∧ v ≤ 95) ∧ ¬ (0 ≤ w ∧ w ≤ 3) → QW Q I L (Sum.inl (some (aI 2))) z n zs) (hQ : (0 ≤ v ∧ v ≤ 95) ∧ (0 ≤ w ∧ w ≤ 3) → QW Q I (u2 L 369 0 (Int64.ofInt (ceN z v w))) (Sum.inl (some (aI 0))) z n zs) : CT G sL_cell [aR (some 0), aI v, aI w, aR (some 369)] (I, R, L, SH, x, c, t) Q := by
  refine CT_of ok_L_cell hG (Nat.le_of_ble_eq_true rfl) ?_
  show X G mL_cell Q 0 _ [] (I, R, L, SH, x, 2, 12)
  refine B_L_cell_0 ⟨⟨Nat.le_refl _, Nat.le_refl _, Nat.le_of_ble_eq_true rfl⟩, so0, ?_⟩
  refine D_cell hG hRK hC hZ ?_ ?_ ?_
  · intro p J R' x' c' t' j1 j2 j3 j4 j5
    exact af_T (by decide +kernel) (fun q => B_L_cell_13 (hT0 p J R' x' _ _ j1 j2 j3 j4 j5))
  · intro p J R' x' c' t' j1 j2 j3 j4 j5
    exact af_T (by decide +kernel) (fun q => B_L_cell_17 (hT1 p J R' x' _ _ j1 j2 j3 j4 j5))
  · intro p J R' x' c' t' j1 j2 j3 j4 j5
    refine af_I (cc := 2) (tt := 12) rfl rfl (by decide) ?_
    refine B_L_cell_8 ⟨_, sh369, ⟨by decide, by decide⟩, B_L_cell_21 ?_⟩
    exact hQ p J R' x' _ _ j1 j2 j3 j4 j5
theorem E_troop {G : amG} {I : Nat → Nat → Int} {R : Nat → Nat → Option Nat} {L : Nat → Nat → Int64} {x c t : Nat} {Q : amR → amH → Prop} (hG : amG0 G) (hRK : RK R) {z : Row} {n : Int} {zs : Nat → Row} (hC : CS I R z n zs) (hZ : ZF z) {k w : Int} (hT0 : ¬ (0 ≤ k ∧ k < z 98) → QW Q I L (Sum.inl (some (aI 1))) z n zs) (hT1 : (0 ≤ k ∧ k < z 98) ∧ ¬ (0 ≤ w ∧ w ≤ 8) → QW Q I L (Sum.inl (some (aI 2))) z n zs) (hQ : (0 ≤ k ∧ k < z 98) ∧ (0 ≤ w ∧ w ≤ 8) → QW Q I (u2 L 369 0 (Int64.ofInt (trN z k.toNat w))) (Sum.inl (some (aI 0))) z n zs) : CT G sL_troop [aR (some 0), aI k, aI w, aR (some 369)] (I, R, L, SH, x, c, t) Q := by
  refine CT_of ok_L_troop hG (Nat.le_of_ble_eq_true rfl) ?_
  show X G mL_troop Q 0 _ [] (I, R, L, SH, x, 2, 12)
  refine B_L_troop_0 ⟨⟨Nat.le_refl _, Nat.le_refl _, Nat.le_of_ble_eq_true rfl⟩, so0, ?_⟩
  refine D_troop hG hRK hC hZ ?_ ?_ ?_
  · intro p J R' x' c' t' j1 j2 j3 j4 j5
    exact af_T (by decide +kernel) (fun q => B_L_troop_13 (hT0 p J R' x' _ _ j1 j2 j3 j4 j5))
  · intro p J R' x' c' t' j1 j2 j3 j4 j5
    exact af_T (by decide +kernel) (fun q => B_L_troop_17 (hT1 p J R' x' _ _ j1 j2 j3 j4 j5))
  · intro p J R' x' c' t' j1 j2 j3 j4 j5
    refine af_I (cc := 2) (tt := 12) rfl rfl (by decide) ?_
    refine B_L_troop_8 ⟨_, sh369, ⟨by decide, by decide⟩, B_L_troop_21 ?_⟩
    exact hQ p J R' x' _ _ j1 j2 j3 j4 j5
theorem E_underWay {G : amG} {I : Nat → Nat → Int} {R : Nat → Nat → Option Nat} {L : Nat → Nat → Int64} {x c t : Nat} {Q : amR → amH → Prop} (hG : amG0 G) (hRK : RK R) {z : Row} {n : Int} {zs : Nat → Row} (hC : CS I R z n zs) (hZ : ZF z) {p w : Int} (hT0 : ¬ (0 ≤ p ∧ p < z 195) → QW Q I L (Sum.inl (some (aI 1))) z n zs) (hT1 : (0 ≤ p ∧ p < z 195) ∧ ¬ (0 ≤ w ∧ w ≤ 3) → QW Q I L (Sum.inl (some (aI 2))) z n zs) (hQ : (0 ≤ p ∧ p < z 195) ∧ (0 ≤ w ∧ w ≤ 3) → QW Q I (u2 L 369 0 (Int64.ofInt (uwZ z p.toNat w))) (Sum.inl (some (aI 0))) z n zs) : CT G sL_underWay [aR (some 0), aI p, aI w, aR (some 369)] (I, R, L, SH, x, c, t) Q := by
  refine CT_of ok_L_underWay hG (Nat.le_of_ble_eq_true rfl) ?_
  show X G mL_underWay Q 0 _ [] (I, R, L, SH, x, 2, 12)
  refine B_L_underWay_0 ⟨⟨Nat.le_refl _, Nat.le_refl _, Nat.le_of_ble_eq_true rfl⟩, so0, ?_⟩
  refine D_underWay hG hRK hC hZ ?_ ?_ ?_
  · intro p J R' x' c' t' j1 j2 j3 j4 j5
    exact af_T (by decide +kernel) (fun q => B_L_underWay_13 (hT0 p J R' x' _ _ j1 j2 j3 j4 j5))
  · intro p J R' x' c' t' j1 j2 j3 j4 j5
    exact af_T (by decide +kernel) (fun q => B_L_underWay_17 (hT1 p J R' x' _ _ j1 j2 j3 j4 j5))
  · intro p J R' x' c' t' j1 j2 j3 j4 j5
    refine af_I (cc := 2) (tt := 12) rfl rfl (by decide) ?_
    refine B_L_underWay_8 ⟨_, sh369, ⟨by decide, by decide⟩, B_L_underWay_21 ?_⟩
    exact hQ p J R' x' _ _ j1 j2 j3 j4 j5
theorem E_count {G : amG} {I : Nat → Nat → Int} {R : Nat → Nat → Option Nat} {L : Nat → Nat → Int64} {x c t : Nat} {Q : amR → amH → Prop} (hG : amG0 G) (hRK : RK R) {z : Row} {n : Int} {zs : Nat → Row} (hC : CS I R z n zs) (hZ : ZF z) {w : Int} (hT0 : ¬ (0 ≤ w ∧ w ≤ 13) → QW Q I L (Sum.inl (some (aI 1))) z n zs) (hQ : (0 ≤ w ∧ w ≤ 13) → QW Q I (u2 L 369 0 (Int64.ofInt (if w = 13 then n else cntZ z w))) (Sum.inl (some (aI 0))) z n zs) : CT G sL_count [aR (some 0), aI w, aR (some 369)] (I, R, L, SH, x, c, t) Q := by
  refine CT_of ok_L_count hG (Nat.le_of_ble_eq_true rfl) ?_
  show X G mL_count Q 0 _ [] (I, R, L, SH, x, 1, 6)
  refine B_L_count_0 ⟨⟨Nat.le_refl _, Nat.le_refl _, Nat.le_of_ble_eq_true rfl⟩, so0, ?_⟩
  refine D_count hG hRK hC hZ ?_ ?_
  · intro p J R' x' c' t' j1 j2 j3 j4 j5
    exact af_T (by decide +kernel) (fun q => B_L_count_12 (hT0 p J R' x' _ _ j1 j2 j3 j4 j5))
  · intro p J R' x' c' t' j1 j2 j3 j4 j5
    refine af_I (cc := 1) (tt := 6) rfl rfl (by decide) ?_
    refine B_L_count_7 ⟨_, sh369, ⟨by decide, by decide⟩, B_L_count_15 ?_⟩
    exact hQ p J R' x' _ _ j1 j2 j3 j4 j5
theorem E_sees {G : amG} {I : Nat → Nat → Int} {R : Nat → Nat → Option Nat} {L : Nat → Nat → Int64} {x c t : Nat} {Q : amR → amH → Prop} (hG : amG0 G) (hRK : RK R) {z : Row} {n : Int} {zs : Nat → Row} (hC : CS I R z n zs) (hZ : ZF z) {v w : Int} (hT0 : ¬ ((0 ≤ v ∧ v ≤ 95) ∧ 0 ≤ w ∧ w ≤ 95) → QW Q I L (Sum.inl (some (aI 1))) z n zs) (hQ : ((0 ≤ v ∧ v ≤ 95) ∧ 0 ≤ w ∧ w ≤ 95) → QW Q I (u2 L 369 0 (if (seeI z v w) = (0 : Int) then Int64.ofNat 0 else Int64.ofNat 1)) (Sum.inl (some (aI 0))) z n zs) : CT G sL_sees [aR (some 0), aI v, aI w, aR (some 369)] (I, R, L, SH, x, c, t) Q := by
  refine CT_of ok_L_sees hG (Nat.le_of_ble_eq_true rfl) ?_
  show X G mL_sees Q 0 _ [] (I, R, L, SH, x, 2, 12)
  refine B_L_sees_0 ⟨⟨Nat.le_refl _, Nat.le_refl _, Nat.le_of_ble_eq_true rfl⟩, so0, ?_⟩
  refine D_sees hG hRK hC hZ ?_ ?_
  · intro p J R' x' c' t' j1 j2 j3 j4 j5
    exact af_T (by decide +kernel) (fun q => B_L_sees_20 (hT0 p J R' x' _ _ j1 j2 j3 j4 j5))
  · intro p J R' x' c' t' j1 j2 j3 j4 j5
    refine af_I (cc := 2) (tt := 12) rfl rfl (by decide) ?_
    have e := fun c2 t2 : Nat => hQ p J R' x' c2 t2 j1 j2 j3 j4 j5
    refine B_L_sees_8 ⟨fun q => ?_, fun q => ?_⟩
    · rw [if_pos q] at e
      refine B_L_sees_15 (B_L_sees_16 ⟨_, sh369, ⟨by decide, by decide⟩, B_L_sees_24 ?_⟩)
      exact e _ _
    · rw [if_neg q] at e
      refine B_L_sees_16 ⟨_, sh369, ⟨by decide, by decide⟩, B_L_sees_24 ?_⟩
      exact e _ _
theorem E_distance {G : amG} {I : Nat → Nat → Int} {R : Nat → Nat → Option Nat} {L : Nat → Nat → Int64} {x c t : Nat} {Q : amR → amH → Prop} (hG : amG0 G) (hRK : RK R) {z : Row} {n : Int} {zs : Nat → Row} (hC : CS I R z n zs) (hZ : ZF z) {v w : Int} (hT0 : ¬ ((0 ≤ v ∧ v ≤ 95) ∧ 0 ≤ w ∧ w ≤ 95) → QW Q I L (Sum.inl (some (aI 1))) z n zs) (hQ : ((0 ≤ v ∧ v ≤ 95) ∧ 0 ≤ w ∧ w ≤ 95) → QW Q I (u2 L 369 0 (Int64.ofInt (dS z v w))) (Sum.inl (some (aI 0))) z n zs) : CT G sL_distance [aR (some 0), aI v, aI w, aR (some 369)] (I, R, L, SH, x, c, t) Q := by
  refine CT_of ok_L_distance hG (Nat.le_of_ble_eq_true rfl) ?_
  show X G mL_distance Q 0 _ [] (I, R, L, SH, x, 2, 12)
  refine B_L_distance_0 ⟨⟨Nat.le_refl _, Nat.le_refl _, Nat.le_of_ble_eq_true rfl⟩, so0, ?_⟩
  refine D_distance hG hRK hC hZ ?_ ?_
  · intro p J R' x' c' t' j1 j2 j3 j4 j5
    exact af_T (by decide +kernel) (fun q => B_L_distance_13 (hT0 p J R' x' _ _ j1 j2 j3 j4 j5))
  · intro p J R' x' c' t' j1 j2 j3 j4 j5
    refine af_I (cc := 2) (tt := 12) rfl rfl (by decide) ?_
    refine B_L_distance_8 ⟨_, sh369, ⟨by decide, by decide⟩, B_L_distance_17 ?_⟩
    exact hQ p J R' x' _ _ j1 j2 j3 j4 j5
theorem E_why {G : amG} {I : Nat → Nat → Int} {R : Nat → Nat → Option Nat} {L : Nat → Nat → Int64} {x c t : Nat} {Q : amR → amH → Prop} (hG : amG0 G) (hRK : RK R) {z : Row} {n : Int} {zs : Nat → Row} (hC : CS I R z n zs) (hZ : ZF z) {k : Int} (hT0 : ¬ (0 ≤ k ∧ k < z 98) → QW Q I L (Sum.inl (some (aI 1))) z n zs) (hQ : (0 ≤ k ∧ k < z 98) → QW Q I (u2 L 369 0 (Int64.ofInt (whyN z k.toNat))) (Sum.inl (some (aI 0))) z n zs) : CT G sL_why [aR (some 0), aI k, aR (some 369)] (I, R, L, SH, x, c, t) Q := by
  refine CT_of ok_L_why hG (Nat.le_of_ble_eq_true rfl) ?_
  show X G mL_why Q 0 _ [] (I, R, L, SH, x, 1, 6)
  refine B_L_why_0 ⟨⟨Nat.le_refl _, Nat.le_refl _, Nat.le_of_ble_eq_true rfl⟩, so0, ?_⟩
  refine D_why hG hRK hC hZ ?_ ?_
  · intro p J R' x' c' t' j1 j2 j3 j4 j5
    exact af_T (by decide +kernel) (fun q => B_L_why_12 (hT0 p J R' x' _ _ j1 j2 j3 j4 j5))
  · intro p J R' x' c' t' j1 j2 j3 j4 j5
    refine af_I (cc := 1) (tt := 6) rfl rfl (by decide) ?_
    refine B_L_why_7 ⟨_, sh369, ⟨by decide, by decide⟩, B_L_why_15 ?_⟩
    exact hQ p J R' x' _ _ j1 j2 j3 j4 j5
theorem E_bestPost {G : amG} {I : Nat → Nat → Int} {R : Nat → Nat → Option Nat} {L : Nat → Nat → Int64} {x c t : Nat} {Q : amR → amH → Prop} (hG : amG0 G) (hRK : RK R) {z : Row} {n : Int} {zs : Nat → Row} (hC : CS I R z n zs) (hZ : ZF z) {v : Int} (hT0 : ¬ (0 ≤ v ∧ v ≤ 1) → QW Q I L (Sum.inl (some (aI 1))) z n zs) (hQ : (0 ≤ v ∧ v ≤ 1) → QW Q I (u2 L 369 0 (Int64.ofInt ((bpS z v 95).1))) (Sum.inl (some (aI 0))) z n zs) : CT G sL_bestPost [aR (some 0), aI v, aR (some 369)] (I, R, L, SH, x, c, t) Q := by
  refine CT_of ok_L_bestPost hG (Nat.le_of_ble_eq_true rfl) ?_
  show X G mL_bestPost Q 0 _ [] (I, R, L, SH, x, 1, 6)
  refine B_L_bestPost_0 ⟨⟨Nat.le_refl _, Nat.le_refl _, Nat.le_of_ble_eq_true rfl⟩, so0, ?_⟩
  refine D_bestPost hG hRK hC hZ ?_ ?_
  · intro p J R' x' c' t' j1 j2 j3 j4 j5
    exact af_T (by decide +kernel) (fun q => B_L_bestPost_12 (hT0 p J R' x' _ _ j1 j2 j3 j4 j5))
  · intro p J R' x' c' t' j1 j2 j3 j4 j5
    refine af_I (cc := 1) (tt := 6) rfl rfl (by decide) ?_
    refine B_L_bestPost_7 ⟨_, sh369, ⟨by decide, by decide⟩, B_L_bestPost_15 ?_⟩
    exact hQ p J R' x' _ _ j1 j2 j3 j4 j5
theorem E_ifPassed {G : amG} {I : Nat → Nat → Int} {R : Nat → Nat → Option Nat} {L : Nat → Nat → Int64} {x c t : Nat} {Q : amR → amH → Prop} (hG : amG0 G) (hRK : RK R) {z : Row} {n : Int} {zs : Nat → Row} (hC : CS I R z n zs) (hZ : ZF z) {u w : Int} (hT0 : ¬ ((1 ≤ u ∧ u ≤ 50) ∧ (w = 2 ∨ w = 3 ∨ (6 ≤ w ∧ w ≤ 10))) → QW Q I L (Sum.inl (some (aI 1))) z n zs) (hQ : ((1 ≤ u ∧ u ≤ 50) ∧ (w = 2 ∨ w = 3 ∨ (6 ≤ w ∧ w ≤ 10))) → QW Q I (u2 L 369 0 (Int64.ofInt (cntZ (passN z u.toNat) w))) (Sum.inl (some (aI 0))) z n zs) : CT G sL_ifPassed [aR (some 0), aI u, aI w, aR (some 369)] (I, R, L, SH, x, c, t) Q := by
  refine CT_of ok_L_ifPassed hG (Nat.le_of_ble_eq_true rfl) ?_
  show X G mL_ifPassed Q 0 _ [] (I, R, L, SH, x, 2, 12)
  refine B_L_ifPassed_0 ⟨⟨Nat.le_refl _, Nat.le_refl _, Nat.le_of_ble_eq_true rfl⟩, so0, ?_⟩
  refine D_ifPassed hG hRK hC hZ ?_ ?_
  · intro p J R' x' c' t' j1 j2 j3 j4 j5
    exact af_T (by decide +kernel) (fun q => B_L_ifPassed_13 (hT0 p J R' x' _ _ j1 j2 j3 j4 j5))
  · intro p J R' x' c' t' j1 j2 j3 j4 j5
    refine af_I (cc := 2) (tt := 12) rfl rfl (by decide) ?_
    refine B_L_ifPassed_8 ⟨_, sh369, ⟨by decide, by decide⟩, B_L_ifPassed_17 ?_⟩
    exact hQ p J R' x' _ _ j1 j2 j3 j4 j5
theorem E_arrivesIn {G : amG} {I : Nat → Nat → Int} {R : Nat → Nat → Option Nat} {L : Nat → Nat → Int64} {x c t : Nat} {Q : amR → amH → Prop} (hG : amG0 G) (hRK : RK R) {z : Row} {n : Int} {zs : Nat → Row} (hC : CS I R z n zs) (hZ : ZF z) {k : Int} (hT0 : ¬ (0 ≤ k ∧ k < z 98) → QW Q I L (Sum.inl (some (aI 1))) z n zs) (hQ : (0 ≤ k ∧ k < z 98) → QW Q I (u2 L 369 0 (Int64.ofInt (arF z k.toNat 61 0))) (Sum.inl (some (aI 0))) z n zs) : CT G sL_arrivesIn [aR (some 0), aI k, aR (some 369)] (I, R, L, SH, x, c, t) Q := by
  refine CT_of ok_L_arrivesIn hG (Nat.le_of_ble_eq_true rfl) ?_
  show X G mL_arrivesIn Q 0 _ [] (I, R, L, SH, x, 1, 6)
  refine B_L_arrivesIn_0 ⟨⟨Nat.le_refl _, Nat.le_refl _, Nat.le_of_ble_eq_true rfl⟩, so0, ?_⟩
  refine D_arrivesIn hG hRK hC hZ ?_ ?_
  · intro p J R' x' c' t' j1 j2 j3 j4 j5
    exact af_T (by decide +kernel) (fun q => B_L_arrivesIn_12 (hT0 p J R' x' _ _ j1 j2 j3 j4 j5))
  · intro p J R' x' c' t' j1 j2 j3 j4 j5
    refine af_I (cc := 1) (tt := 6) rfl rfl (by decide) ?_
    refine B_L_arrivesIn_7 ⟨_, sh369, ⟨by decide, by decide⟩, B_L_arrivesIn_15 ?_⟩
    exact hQ p J R' x' _ _ j1 j2 j3 j4 j5
