theorem D_X1_init {G : amG} {I : Nat → Nat → Int} {R : Nat → Nat → Option Nat} {L : Nat → Nat → Int64} {S : List (Nat × Nat)} {c t : Nat} {Q : amR → amH → Prop} (hG : amG0 G) {x0 : Nat} {k : Nat} (hk : S.length = k) (hx : S[x0]? = some (1, 0)) (zI : Zz I 0 S.length) (zR : Zz R none S.length) (zL : Zz L 0 S.length) (hQ : Q (Sum.inl none) (hiI I (k + 1) 5, hiR (u2 R x0 0 (some k)) k (k + 1) 5, L, S ++ [(24, 5)] ++ hiS 5, 0, 0, 0)) : CT G sX1_init [aR (some x0)] (I, R, L, S, 0, c, t) Q := by
  have hlt := slt hx
  refine CT_of ok_X1_init hG (Nat.le_of_ble_eq_true rfl) ?_
  show X G mX1_init Q 0 _ [] (I, R, L, S, 0, 246, 1850)
  refine B_X1_init_0 ?_
  try dsimp only
  rw [Zz_u1 zI (Nat.le_refl _), Zz_u1 zR (Nat.le_refl _), Zz_u1 zL (Nat.le_refl _)]
  have hl : (S ++ [(24, 5)]).length = k + 1 := by rw [sl1, hk]
  have s0 : (S ++ [(24, 5)])[k]? = some (24, 5) := by rw [← hk]; exact snew
  rw [hk] at zI zR zL hlt
  rw [hk]
  refine ⟨(by first | rfl | exact Nat.le_of_ble_eq_true rfl), ⟨by decide, by decide, by decide, by decide, rfl⟩, sap hx, ?_⟩
  have e := L_X1_14 (I := I) (R := u2 R x0 0 (some k)) (Q := Q) hG hl (sap hx) s0 (by omega) (Zz_le zL (Nat.le_succ _)) (B_X1_init_38 ⟨rfl, hQ⟩) 6 0 245 1845 (by decide) (by decide) rfl rfl (Zz_le zI (by omega)) (Zz_u2 (Zz_le zR (by omega)) (by omega) _ _) (u2_same _ _ _ _) (by show (S ++ [(24, 5)] ++ []).length = _; rw [List.append_nil, hl])
  have e0 : S ++ [(24, 5)] ++ hiS 0 = S ++ [(24, 5)] := List.append_nil _
  rw [e0] at e
  exact e
