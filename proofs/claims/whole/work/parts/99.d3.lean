/-! ===== what is made: the class, its two wars ===== -/
theorem S_X9_0 {G : amG} {I : Nat → Nat → Int} {R : Nat → Nat → Option Nat} {L : Nat → Nat → Int64} {S : List (Nat × Nat)} {c t : Nat} {Q : amR → amH → Prop} (hG : amG0 G) {x0 k : Nat} (hk : S.length = k) (hx : S[x0]? = some (9, 0)) (hc : 49 ≤ c) (ht : 369 ≤ t) (zI : Zz I 0 k) (zR : Zz R none k) (zL : Zz L 0 k) (hK : X G mX9_init Q 12 [some (aR (some x0))] [aR (some k), aR (some x0)] (u2 I (k + 1 + 2) 1 95, wR R k (k + 1), L, S ++ [(8, 0)] ++ shWb, 0, c - 1 - 48, t - 10 - 359)) : X G mX9_init Q 0 [some (aR (some x0))] [] (I, R, L, S, 0, c, t) := by
  have hlt := slt hx
  have sw : (S ++ [(8, 0)])[k]? = some (8, 0) := by rw [← hk]; exact snew
  have sl : (S ++ [(8, 0)]).length = k + 1 := by rw [sl1, hk]
  rw [hk] at hlt
  refine B_X9_init_0 ?_
  try dsimp only
  rw [hk, Zz_u1 zI (Nat.le_refl _), Zz_u1 zR (Nat.le_refl _), Zz_u1 zL (Nat.le_refl _)]
  refine ⟨Nat.le_of_ble_eq_true rfl, ⟨by omega, by omega, rfl⟩, rfl, ⟨by omega, by omega, Nat.le_of_ble_eq_true rfl⟩, trivial, ?_⟩
  refine D_X8_init hG (k := k + 1) sl sw (by rw [sl]; exact Zz_le zI (Nat.le_succ _)) (by rw [sl]; exact Zz_le zR (Nat.le_succ _)) (by rw [sl]; exact Zz_le zL (Nat.le_succ _)) ?_
  refine af_N (cc := 48) (tt := 359) rfl rfl rfl ?_
  try dsimp only
  exact hK
theorem S_X9_12 {G : amG} {I : Nat → Nat → Int} {R : Nat → Nat → Option Nat} {L : Nat → Nat → Int64} {S : List (Nat × Nat)} {c t : Nat} {Q : amR → amH → Prop} (hG : amG0 G) {x0 k : Nat} (hk : S.length = k) (hx : S[x0]? = some (9, 0)) (hc : 49 ≤ c) (ht : 369 ≤ t) (zI : Zz I 0 k) (zR : Zz R none k) (zL : Zz L 0 k) {y0 : Nat} (hK : X G mX9_init Q 23 [some (aR (some x0))] [aR (some k), aR (some x0)] (u2 I (k + 1 + 2) 1 95, wR (u2 R x0 0 (some y0)) k (k + 1), L, S ++ [(8, 0)] ++ shWb, 0, c - 1 - 48, t - 10 - 359)) : X G mX9_init Q 12 [some (aR (some x0))] [aR (some y0), aR (some x0)] (I, R, L, S, 0, c, t) := by
  have hlt := slt hx
  have sw : (S ++ [(8, 0)])[k]? = some (8, 0) := by rw [← hk]; exact snew
  have sl : (S ++ [(8, 0)]).length = k + 1 := by rw [sl1, hk]
  rw [hk] at hlt
  refine B_X9_init_12 ?_
  try dsimp only
  rw [hk, Zz_u1 zI (Nat.le_refl _), Zz_u1 (Zz_u2 zR hlt _ _) (Nat.le_refl _), Zz_u1 zL (Nat.le_refl _)]
  refine ⟨hx, ⟨by omega, by omega, rfl⟩, rfl, ⟨by omega, by omega, Nat.le_of_ble_eq_true rfl⟩, trivial, ?_⟩
  refine D_X8_init hG (k := k + 1) sl sw (by rw [sl]; exact Zz_le zI (Nat.le_succ _)) (by rw [sl]; exact Zz_le (Zz_u2 zR hlt _ _) (Nat.le_succ _)) (by rw [sl]; exact Zz_le zL (Nat.le_succ _)) ?_
  refine af_N (cc := 48) (tt := 359) rfl rfl rfl ?_
  try dsimp only
  exact hK
