/-! ===== what is made: couriers, marshal ===== -/
theorem D_X2_init {G : amG} {I : Nat → Nat → Int} {R : Nat → Nat → Option Nat} {L : Nat → Nat → Int64} {S : List (Nat × Nat)} {c t : Nat} {Q : amR → amH → Prop} (hG : amG0 G) {x0 : Nat} (hx : S[x0]? = some (2, 0)) (zI : Zz I 0 S.length) (zR : Zz R none S.length) (zL : Zz L 0 S.length) (hQ : Q (Sum.inl none) (I, u2 (u2 (u2 (u2 R S.length 0 (some (S.length + 1))) S.length 1 (some (S.length + 2))) S.length 2 (some (S.length + 3))) x0 0 (some S.length), L, S ++ [(4, 0)] ++ [(20, 96)] ++ [(20, 96)] ++ [(20, 96)], 0, 0, 0)) : CT G sX2_init [aR (some x0)] (I, R, L, S, 0, c, t) Q := by
  have hlt := slt hx
  refine CT_of ok_X2_init hG (Nat.le_of_ble_eq_true rfl) ?_
  show X G mX2_init Q 0 _ [] (I, R, L, S, 0, 4, 291)
  refine B_X2_init_0 ?_
  try dsimp only
  refine ⟨(by first | rfl | exact Nat.le_of_ble_eq_true rfl), ⟨by decide, by decide, rfl⟩, rfl, ⟨by decide, by decide, Nat.le_of_ble_eq_true rfl⟩, trivial, ?_⟩
  rw [Zz_u1 zI (Nat.le_refl _), Zz_u1 zR (Nat.le_refl _), Zz_u1 zL (Nat.le_refl _)]
  refine D_X4_init hG snew (by rw [sl1]; exact Zz_le zI (Nat.le_succ _)) (by rw [sl1]; exact Zz_le zR (Nat.le_succ _)) (by rw [sl1]; exact Zz_le zL (Nat.le_succ _)) ?_
  refine af_N (cc := 3) (tt := 288) rfl rfl rfl ?_
  try dsimp only
  refine B_X2_init_12 ?_
  try dsimp only
  refine ⟨sap (sap (sap (sap hx))), rfl, ?_⟩
  try simp only [sl1, List.length_append, List.length_cons, List.length_nil, Nat.add_assoc, Nat.zero_add, Nat.reduceAdd]
  exact hQ
theorem D_X0_init {G : amG} {I : Nat → Nat → Int} {R : Nat → Nat → Option Nat} {L : Nat → Nat → Int64} {S : List (Nat × Nat)} {c t : Nat} {Q : amR → amH → Prop} (hG : amG0 G) {x0 : Nat} (hx : S[x0]? = some (0, 0)) (zI : Zz I 0 S.length) (zR : Zz R none S.length) (zL : Zz L 0 S.length) (hQ : Q (Sum.inl none) (I, u2 (u2 (u2 (u2 (u2 R S.length 0 (some (S.length + 1))) S.length 1 (some (S.length + 2))) S.length 2 (some (S.length + 3))) x0 0 (some S.length)) x0 1 (some (S.length + 4)), L, S ++ [(4, 0)] ++ [(20, 96)] ++ [(20, 96)] ++ [(20, 96)] ++ [(20, 96)], 0, 0, 0)) : CT G sX0_init [aR (some x0)] (I, R, L, S, 0, c, t) Q := by
  have hlt := slt hx
  refine CT_of ok_X0_init hG (Nat.le_of_ble_eq_true rfl) ?_
  show X G mX0_init Q 0 _ [] (I, R, L, S, 0, 5, 387)
  refine B_X0_init_0 ?_
  try dsimp only
  refine ⟨(by first | rfl | exact Nat.le_of_ble_eq_true rfl), ⟨by decide, by decide, rfl⟩, rfl, ⟨by decide, by decide, Nat.le_of_ble_eq_true rfl⟩, trivial, ?_⟩
  rw [Zz_u1 zI (Nat.le_refl _), Zz_u1 zR (Nat.le_refl _), Zz_u1 zL (Nat.le_refl _)]
  refine D_X4_init hG snew (by rw [sl1]; exact Zz_le zI (Nat.le_succ _)) (by rw [sl1]; exact Zz_le zR (Nat.le_succ _)) (by rw [sl1]; exact Zz_le zL (Nat.le_succ _)) ?_
  refine af_N (cc := 3) (tt := 288) rfl rfl rfl ?_
  try dsimp only
  refine B_X0_init_12 ?_
  try dsimp only
  refine ⟨sap (sap (sap (sap hx))), ⟨by decide, by decide, by decide, by decide, rfl⟩, sap (sap (sap (sap (sap hx)))), rfl, ?_⟩
  try simp only [sl1, List.length_append, List.length_cons, List.length_nil, Nat.add_assoc, Nat.zero_add, Nat.reduceAdd]
  rw [Zz_u1 zI (by omega), Zz_u1 zL (by omega), Zz_u1 (k := S.length + 4) (Zz_u2 (Zz_u2 (Zz_u2 (Zz_u2 (Zz_le zR (by omega)) (by omega) _ _) (by omega) _ _) (by omega) _ _) (by omega) _ _) (by omega)]
  exact hQ
