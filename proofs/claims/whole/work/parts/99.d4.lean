/-! ===== what is made: the class, its other parts ===== -/
theorem S_X9_23 {G : amG} {I : Nat → Nat → Int} {R : Nat → Nat → Option Nat} {L : Nat → Nat → Int64} {S : List (Nat × Nat)} {c t : Nat} {Q : amR → amH → Prop} (hG : amG0 G) {x0 k y0 : Nat} (hk : S.length = k) (hx : S[x0]? = some (9, 0)) (hc : 247 ≤ c) (ht : 1852 ≤ t) (zI : Zz I 0 k) (zR : Zz R none k) (zL : Zz L 0 k) (hK : X G mX9_init Q 34 [some (aR (some x0))] [aR (some k), aR (some x0)] (hiI I (k + 1 + 1) 5, hiR (u2 (u2 R x0 1 (some y0)) k 0 (some (k + 1))) (k + 1) (k + 1 + 1) 5, L, S ++ [(1, 0)] ++ [(24, 5)] ++ hiS 5, 0, c - 1 - 246, t - 2 - 1850)) : X G mX9_init Q 23 [some (aR (some x0))] [aR (some y0), aR (some x0)] (I, R, L, S, 0, c, t) := by
  have hlt := slt hx
  have sw : (S ++ [(1, 0)])[k]? = some (1, 0) := by rw [← hk]; exact snew
  have sl : (S ++ [(1, 0)]).length = k + 1 := by rw [sl1, hk]
  rw [hk] at hlt
  refine B_X9_init_23 ?_
  try dsimp only
  rw [hk, Zz_u1 zI (Nat.le_refl _), Zz_u1 (Zz_u2 zR hlt _ _) (Nat.le_refl _), Zz_u1 zL (Nat.le_refl _)]
  refine ⟨hx, ⟨by omega, by omega, rfl⟩, rfl, ⟨by omega, by omega, Nat.le_of_ble_eq_true rfl⟩, trivial, ?_⟩
  refine D_X1_init hG (k := k + 1) sl sw (by rw [sl]; exact Zz_le zI (Nat.le_succ _)) (by rw [sl]; exact Zz_le (Zz_u2 zR hlt _ _) (Nat.le_succ _)) (by rw [sl]; exact Zz_le zL (Nat.le_succ _)) ?_
  refine af_N (cc := 246) (tt := 1850) rfl rfl rfl ?_
  try dsimp only
  try rw [sl]
  exact hK
theorem S_X9_34 {G : amG} {I : Nat → Nat → Int} {R : Nat → Nat → Option Nat} {L : Nat → Nat → Int64} {S : List (Nat × Nat)} {c t : Nat} {Q : amR → amH → Prop} (hG : amG0 G) {x0 k y0 : Nat} (hk : S.length = k) (hx : S[x0]? = some (9, 0)) (hc : 4 ≤ c) (ht : 84 ≤ t) (zI : Zz I 0 k) (zR : Zz R none k) (zL : Zz L 0 k) (hK : X G mX9_init Q 45 [some (aR (some x0))] [aR (some k), aR (some x0)] (I, u2 (u2 (u2 (u2 R x0 2 (some y0)) k 0 (some (k + 1))) k 2 (some (k + 1 + 1))) k 3 (some (k + 1 + 2)), L, S ++ [(6, 0)] ++ [(20, 60)] ++ [(20, 10)] ++ [(20, 10)], 0, c - 1 - 3, t - 4 - 80)) : X G mX9_init Q 34 [some (aR (some x0))] [aR (some y0), aR (some x0)] (I, R, L, S, 0, c, t) := by
  have hlt := slt hx
  have sw : (S ++ [(6, 0)])[k]? = some (6, 0) := by rw [← hk]; exact snew
  have sl : (S ++ [(6, 0)]).length = k + 1 := by rw [sl1, hk]
  rw [hk] at hlt
  refine B_X9_init_34 ?_
  try dsimp only
  rw [hk, Zz_u1 zI (Nat.le_refl _), Zz_u1 (Zz_u2 zR hlt _ _) (Nat.le_refl _), Zz_u1 zL (Nat.le_refl _)]
  refine ⟨hx, ⟨by omega, by omega, rfl⟩, rfl, ⟨by omega, by omega, Nat.le_of_ble_eq_true rfl⟩, trivial, ?_⟩
  refine D_X6_init hG sw (by rw [sl]; exact Zz_le zI (Nat.le_succ _)) (by rw [sl]; exact Zz_le (Zz_u2 zR hlt _ _) (Nat.le_succ _)) (by rw [sl]; exact Zz_le zL (Nat.le_succ _)) ?_
  refine af_N (cc := 3) (tt := 80) rfl rfl rfl ?_
  try dsimp only
  try rw [sl]
  exact hK
theorem S_X9_45 {G : amG} {I : Nat → Nat → Int} {R : Nat → Nat → Option Nat} {L : Nat → Nat → Int64} {S : List (Nat × Nat)} {c t : Nat} {Q : amR → amH → Prop} (hG : amG0 G) {x0 k y0 : Nat} (hk : S.length = k) (hx : S[x0]? = some (9, 0)) (hc : 6 ≤ c) (ht : 389 ≤ t) (zI : Zz I 0 k) (zR : Zz R none k) (zL : Zz L 0 k) (hK : X G mX9_init Q 56 [some (aR (some x0))] [aR (some k), aR (some x0)] (I, u2 (u2 (u2 (u2 (u2 (u2 R x0 3 (some y0)) (k + 1) 0 (some (k + 1 + 1))) (k + 1) 1 (some (k + 1 + 2))) (k + 1) 2 (some (k + 1 + 3))) k 0 (some (k + 1))) k 1 (some (k + 1 + 4)), L, S ++ [(0, 0)] ++ [(4, 0)] ++ [(20, 96)] ++ [(20, 96)] ++ [(20, 96)] ++ [(20, 96)], 0, c - 1 - 5, t - 2 - 387)) : X G mX9_init Q 45 [some (aR (some x0))] [aR (some y0), aR (some x0)] (I, R, L, S, 0, c, t) := by
  have hlt := slt hx
  have sw : (S ++ [(0, 0)])[k]? = some (0, 0) := by rw [← hk]; exact snew
  have sl : (S ++ [(0, 0)]).length = k + 1 := by rw [sl1, hk]
  rw [hk] at hlt
  refine B_X9_init_45 ?_
  try dsimp only
  rw [hk, Zz_u1 zI (Nat.le_refl _), Zz_u1 (Zz_u2 zR hlt _ _) (Nat.le_refl _), Zz_u1 zL (Nat.le_refl _)]
  refine ⟨hx, ⟨by omega, by omega, rfl⟩, rfl, ⟨by omega, by omega, Nat.le_of_ble_eq_true rfl⟩, trivial, ?_⟩
  refine D_X0_init hG sw (by rw [sl]; exact Zz_le zI (Nat.le_succ _)) (by rw [sl]; exact Zz_le (Zz_u2 zR hlt _ _) (Nat.le_succ _)) (by rw [sl]; exact Zz_le zL (Nat.le_succ _)) ?_
  refine af_N (cc := 5) (tt := 387) rfl rfl rfl ?_
  try dsimp only
  try rw [sl]
  exact hK
theorem S_X9_56 {G : amG} {I : Nat → Nat → Int} {R : Nat → Nat → Option Nat} {L : Nat → Nat → Int64} {S : List (Nat × Nat)} {c t : Nat} {Q : amR → amH → Prop} (hG : amG0 G) {x0 k y0 : Nat} (hk : S.length = k) (hx : S[x0]? = some (9, 0)) (hc : 5 ≤ c) (ht : 292 ≤ t) (zI : Zz I 0 k) (zR : Zz R none k) (zL : Zz L 0 k) (hK : X G mX9_init Q 67 [some (aR (some x0))] [aR (some k), aR (some x0)] (I, u2 (u2 (u2 (u2 (u2 R x0 4 (some y0)) (k + 1) 0 (some (k + 1 + 1))) (k + 1) 1 (some (k + 1 + 2))) (k + 1) 2 (some (k + 1 + 3))) k 0 (some (k + 1)), L, S ++ [(2, 0)] ++ [(4, 0)] ++ [(20, 96)] ++ [(20, 96)] ++ [(20, 96)], 0, c - 1 - 4, t - 1 - 291)) : X G mX9_init Q 56 [some (aR (some x0))] [aR (some y0), aR (some x0)] (I, R, L, S, 0, c, t) := by
  have hlt := slt hx
  have sw : (S ++ [(2, 0)])[k]? = some (2, 0) := by rw [← hk]; exact snew
  have sl : (S ++ [(2, 0)]).length = k + 1 := by rw [sl1, hk]
  rw [hk] at hlt
  refine B_X9_init_56 ?_
  try dsimp only
  rw [hk, Zz_u1 zI (Nat.le_refl _), Zz_u1 (Zz_u2 zR hlt _ _) (Nat.le_refl _), Zz_u1 zL (Nat.le_refl _)]
  refine ⟨hx, ⟨by omega, by omega, rfl⟩, rfl, ⟨by omega, by omega, Nat.le_of_ble_eq_true rfl⟩, trivial, ?_⟩
  refine D_X2_init hG sw (by rw [sl]; exact Zz_le zI (Nat.le_succ _)) (by rw [sl]; exact Zz_le (Zz_u2 zR hlt _ _) (Nat.le_succ _)) (by rw [sl]; exact Zz_le zL (Nat.le_succ _)) ?_
  refine af_N (cc := 4) (tt := 291) rfl rfl rfl ?_
  try dsimp only
  try rw [sl]
  exact hK
