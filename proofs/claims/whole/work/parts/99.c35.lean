/-! ===== what is made: a war ===== -/
def wR1 (R : Nat → Nat → Option Nat) (b k : Nat) : Nat → Nat → Option Nat := u2 (u2 (u2 (u2 (u2 (u2 R k 0 (some (k + 1))) b 0 (some k)) b 1 (some (k + 2))) b 2 (some (k + 3))) b 4 (some (k + 4))) b 9 (some (k + 5))
def wR (R : Nat → Nat → Option Nat) (b k : Nat) : Nat → Nat → Option Nat := rA (rA (wR1 R b k) (k + 3) (k + 6) 12) (k + 4) (k + 18) 30
def shWb : List (Nat × Nat) := [(5, 0), (20, 96), (20, 2), (22, 12), (23, 30), (20, 2)] ++ (List.replicate 12 (7, 0) ++ List.replicate 30 (3, 0))
theorem D_X8_init {G : amG} {I : Nat → Nat → Int} {R : Nat → Nat → Option Nat} {L : Nat → Nat → Int64} {S : List (Nat × Nat)} {c t : Nat} {Q : amR → amH → Prop} (hG : amG0 G) {x0 : Nat} {k : Nat} (hk : S.length = k) (hx : S[x0]? = some (8, 0)) (zI : Zz I 0 S.length) (zR : Zz R none S.length) (zL : Zz L 0 S.length) (hQ : Q (Sum.inl none) (u2 I (k + 2) 1 95, wR R x0 k, L, S ++ shWb, 0, 0, 0)) : CT G sX8_init [aR (some x0)] (I, R, L, S, 0, c, t) Q := by
  have hlt := slt hx
  refine CT_of ok_X8_init hG (Nat.le_of_ble_eq_true rfl) ?_
  show X G mX8_init Q 0 _ [] (I, R, L, S, 0, 48, 359)
  refine B_X8_init_0 ?_
  try dsimp only
  refine ⟨(by first | rfl | exact Nat.le_of_ble_eq_true rfl), ⟨by decide, by decide, rfl⟩, rfl, ⟨by decide, by decide, Nat.le_of_ble_eq_true rfl⟩, trivial, ?_⟩
  rw [Zz_u1 zI (Nat.le_refl _), Zz_u1 zR (Nat.le_refl _), Zz_u1 zL (Nat.le_refl _)]
  refine D_X5_init hG snew (by rw [sl1]; exact Zz_le zI (Nat.le_succ _)) (by rw [sl1]; exact Zz_le zR (Nat.le_succ _)) (by rw [sl1]; exact Zz_le zL (Nat.le_succ _)) ?_
  refine af_N (cc := 1) (tt := 96) rfl rfl rfl ?_
  try dsimp only
  refine B_X8_init_12 ?_
  try dsimp only
  simp only [sl1, hk, List.length_append, List.length_cons, List.length_nil, Nat.add_assoc, Nat.zero_add, Nat.reduceAdd]
  rw [hk] at zI zR zL hlt
  have z2 : Zz (u2 (u2 R k 0 (some (k + 1))) x0 0 (some k)) none (k + 2) := Zz_u2 (Zz_u2 (Zz_le zR (by omega)) (by omega) _ _) (by omega) _ _
  have z3 := Zz_u2 (Zz_le z2 (by omega : k + 2 ≤ k + 3)) (by omega : x0 < k + 3) 1 (some (k + 2))
  have z4 := Zz_u2 (Zz_le z3 (by omega : k + 3 ≤ k + 4)) (by omega : x0 < k + 4) 2 (some (k + 3))
  have z5 := Zz_u2 (Zz_le z4 (by omega : k + 4 ≤ k + 5)) (by omega : x0 < k + 5) 4 (some (k + 4))
  have z6 := Zz_u2 (Zz_le z5 (by omega : k + 5 ≤ k + 6)) (by omega : x0 < k + 6) 9 (some (k + 5))
  rw [Zz_u1 z2 (by omega), Zz_u1 z3 (by omega), Zz_u1 z4 (by omega), Zz_u1 z5 (by omega), Zz_u1 (a := k + 2) zI (by omega), Zz_u1 (a := k + 3) zI (by omega), Zz_u1 (a := k + 4) zI (by omega), Zz_u1 (a := k + 5) zI (by omega), Zz_u1 (a := k + 2) zL (by omega), Zz_u1 (a := k + 3) zL (by omega), Zz_u1 (a := k + 4) zL (by omega), Zz_u1 (a := k + 5) zL (by omega)]
  have e2 : (S ++ [(5, 0)] ++ [(20, 96)]).length = k + 2 := by simp [hk]
  have e3 : (S ++ [(5, 0)] ++ [(20, 96)] ++ [(20, 2)]).length = k + 3 := by simp [hk]
  have e4 : (S ++ [(5, 0)] ++ [(20, 96)] ++ [(20, 2)] ++ [(22, 12)]).length = k + 4 := by simp [hk]
  have e6 : (S ++ [(5, 0)] ++ [(20, 96)] ++ [(20, 2)] ++ [(22, 12)] ++ [(23, 30)] ++ [(20, 2)]).length = k + 6 := by simp [hk]
  have e18 : (S ++ [(5, 0)] ++ [(20, 96)] ++ [(20, 2)] ++ [(22, 12)] ++ [(23, 30)] ++ [(20, 2)] ++ List.replicate 12 (7, 0)).length = k + 18 := by simp [hk]
  have s2 : (S ++ [(5, 0)] ++ [(20, 96)] ++ [(20, 2)])[k + 2]? = some (20, 2) := by rw [← e2]; exact snew
  have s3 : (S ++ [(5, 0)] ++ [(20, 96)] ++ [(20, 2)] ++ [(22, 12)])[k + 3]? = some (22, 12) := by rw [← e3]; exact snew
  have s4 : (S ++ [(5, 0)] ++ [(20, 96)] ++ [(20, 2)] ++ [(22, 12)] ++ [(23, 30)])[k + 4]? = some (23, 30) := by rw [← e4]; exact snew
  have zI6 : Zz (u2 I (k + 2) 1 95) 0 (k + 6) := Zz_u2 (Zz_le zI (by omega)) (by omega) _ _
  refine ⟨sap (sap (hx)), ⟨by decide, by decide, by decide, by decide, trivial⟩, sap (sap (sap (hx))), ⟨by decide, by decide, by decide, by decide, trivial⟩, sap (sap (sap (sap (hx)))), ⟨by decide, by decide, by decide, by decide, trivial⟩, sap (sap (sap (sap (sap (hx))))), ⟨by decide, by decide, by decide, by decide, trivial⟩, sap (sap (sap (sap (sap (sap (hx)))))), sap (sap (sap (sap (sap (sap (hx)))))), k + 2, (by simp [u2]), 2, sap (sap (sap s2)), ⟨by decide, by decide⟩, ?_⟩
  have hK2 : X G mX8_init Q 109 [some (aR (some x0)), some (aI (30 : Nat))] [] (u2 I (k + 2) 1 95, wR R x0 k, L, S ++ [(5, 0)] ++ [(20, 96)] ++ [(20, 2)] ++ [(22, 12)] ++ [(23, 30)] ++ [(20, 2)] ++ List.replicate 12 (7, 0) ++ List.replicate 30 (3, 0), 0, 0, 0) := by
    refine B_X8_init_109 ⟨rfl, ?_⟩
    have es : S ++ [(5, 0)] ++ [(20, 96)] ++ [(20, 2)] ++ [(22, 12)] ++ [(23, 30)] ++ [(20, 2)] ++ List.replicate 12 (7, 0) ++ List.replicate 30 (3, 0) = S ++ shWb := by
      unfold shWb
      simp only [List.append_assoc, List.cons_append, List.nil_append]
    rw [es]
    exact hQ
  have a1 := L_X8_84 (R := rA (wR1 R x0 k) (k + 3) (k + 6) 12) (Q := Q) (a := k + 4) (b := x0) (o := k + 18) hG e18 (sap (sap (sap (sap (sap (sap (sap (hx)))))))) (sap (sap s4)) (by omega) (by rw [rA_ne _ _ (by omega)]; simp [wR1, u2]) (Zz_le zI6 (by omega)) (Zz_rA (Zz_le z6 (by omega)) (by omega) _ _) (Zz_le zL (by omega)) hK2 31 0 30 120 (by decide) (by decide) rfl rfl
  rw [rA_0, List.replicate_zero, List.append_nil] at a1
  have a2 := L_X8_57 (R := wR1 R x0 k) (Q := Q) (a := k + 3) (b := x0) (o := k + 6) hG e6 (sap (sap (sap (sap (sap (sap (hx))))))) (sap (sap s3)) (by omega) (by simp [wR1, u2]) zI6 z6 (Zz_le zL (by omega)) (B_X8_init_82 a1) 13 0 42 216 (by decide) (by decide) rfl rfl
  rw [rA_0, List.replicate_zero, List.append_nil] at a2
  exact a2
