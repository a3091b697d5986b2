/-! ===== what is made: a war ===== -/
def wR1 (R : Nat → Nat → Option Nat) (b k : Nat) : Nat → Nat → Option Nat := u2 (u2 (u2 (u2 (u2 (u2 R k 0 (some (k + 1))) b 0 (some k)) b 1 (some (k + 2))) b 2 (some (k + 3))) b 4 (some (k + 4))) b 9 (some (k + 5))
def wR (R : Nat → Nat → Option Nat) (b k : Nat) : Nat → Nat → Option Nat := rA (rA (wR1 R b k) (k + 3) (k + 6) 12) (k + 4) (k + 18) 30
def shWb : List (Nat × Nat) := [(5, 0), (20, 96), (20, 2), (22, 12), (23, 30), (20, 2)] ++ (List.replicate 12 (7, 0) ++ List.replicate 30 (3, 0))
theorem D_X8_init {G : amG} {I : Nat → Nat → Int} {R : Nat → Nat → Option Nat} {L : Nat → Nat → Int64} {S : List (Nat × Nat)} {c t : Nat} {Q : amR → amH → Prop} (hG : amG0 G) {x0 : Nat} {k : Nat} (hk : S.length = k) (hx : S[x0]? = some (8, 0)) (zI : Zz I 0 S.length) (zR : Zz R none S.length) (zL : Zz L 0 S.length) (hQ : Q (Sum.inl none) (u2 I (k + 2) 1 95, wR R x0 k, L, S ++ shWb, 0, 0, 0)) : CT G sX8_init [aR (some x0)] (I, R, L, S, 0, c, t) Q := by
  have hlt := slt hx
  refine CT_of ok_X8_init hG (Nat.le_of_ble_eq_true rfl) ?_
  show X G mX8_init Q 0 _ [] (I, R, L, S, 0, 48, 359)
  refine B_X8_init_0 ?_
  try dsimp only
  refine ⟨(by first | rfl | exact Nat.le_of_ble_eq_true rfl), ⟨by decide, by decide, rfl⟩, rfl, ⟨by decide, by decide, Nat.le_of_ble_eq_true rfl⟩, trivial, ?_⟩
  rw [Zz_u1 zI (Nat.le_refl _), Zz_u1 zR (Nat.le_refl _), Zz_u1 zL (Nat.le_refl _)]
  refine D_X5_init hG snew (by rw [sl1]; exact Zz_le zI (Nat.le_succ _)) (by rw [sl1]; exact Zz_le zR (Nat.le_succ _)) (by rw [sl1]; exact Zz_le zL (Nat.le_succ _)) ?_
  refine af_N (cc := 1) (tt := 96) rfl rfl rfl ?_
  try dsimp only
  refine B_X8_init_12 ?_
  try dsimp only
  simp only [sl1, hk, List.length_append, List.length_cons, List.length_nil, Nat.add_assoc, Nat.zero_add, Nat.reduceAdd]
  rw [hk] at zI zR zL hlt
  have z2 : Zz (u2 (u2 R k 0 (some (k + 1))) x0 0 (some k)) none (k + 2) := Zz_u2 (Zz_u2 (Zz_le zR (by omega)) (by omega) _ _) (by omega) _ _
  have z3 := Zz_u2 (Zz_le z2 (by omega : k + 2 ≤ k + 3)) (by omega : x0 < k + 3) 1 (some (k + 2))
  have z4 := Zz_u2 (Zz_le z3 (by omega : k + 3 ≤ k + 4)) (by omega : x0 < k + 4) 2 (some (k + 3))
  have z5 := Zz_u2 (Zz_le z4 (by omega : k + 4 ≤ k + 5)) (by omega : x0 < k + 5) 4 (some (k + 4))
  have z6 := Zz_u2 (Zz_le z5 (by omega : k + 5 ≤ k + 6)) (by omega : x0 < k + 6) 9 (some (k + 5))
  rw [Zz_u1 z2 (by omega), Zz_u1 z3 (by omega), Zz_u1 z4 (by omega), Zz_u1 z5 (by omega), Zz_u1 (a := k + 2) zI (by omega), Zz_u1 (a := k + 3) zI (by omega), Zz_u1 (a := k + 4) zI (by omega), Zz_u1 (a := k + 5) zI (by omega), Zz_u1 (a := k + 2) zL (by omega), Zz_u1 (a := k + 3) zL (by omega), Zz_u1 (a := k + 4) zL (by omega), Zz_u1 (a := k + 5) zL (by omega)]
  have e2 : (S ++ [(5, 0)] ++ [(20, 96)]).length = k + 2 := by simp [hk]
  have e3 : (S ++ [(5, 0)] ++ [(20, 96)] ++ [(20, 2)]).length = k + 3 := by simp [hk]
  have e4 : (S ++ [(5, 0)] ++ [(20, 96)] ++ [(20, 2)] ++ [(22, 12)]).length = k + 4 := by simp [hk]
  have e6 : (S ++ [(5, 0)] ++ [(20, 96)] ++ [(20, 2)] ++ [(22, 12)] ++ [(23, 30)] ++ [(20, 2)]).length = k + 6 := by simp [hk]
  have e18 : (S ++ [(5, 0)] ++ [(20, 96)] ++ [(20, 2)] ++ [(22, 12)] ++ [(23, 30)] ++ [(20, 2)] ++ List.replicate 12 (7, 0)).length = k + 18 := by simp [hk]
  have s2 : (S ++ [(5, 0)] ++ [(20, 96)] ++ [(20, 2)])[k + 2]? = some (20, 2) := by rw [← e2]; exact snew
  have s3 : (S ++ [(5, 0)] ++ [(20, 96)] ++ [(20, 2)] ++ [(22, 12)])[k + 3]? = some (22, 12) := by rw [← e3]; exact snew
  have s4 : (S ++ [(5, 0)] ++ [(20, 96)] ++ [(20, 2)] ++ [(22, 12)] ++ [(23, 30)])[k + 4]? = some (23, 30) := by rw [← e4]; exact snew
  have zI6 : Zz (u2 I (k + 2) 1 95) 0 (k + 6) := Zz_u2 (Zz_le zI (by omega)) (by omega) _ _
  refine ⟨sap (sap (hx)), ⟨by decide, by decide, by decide, by decide, trivial⟩, sap (sap (sap (hx))), ⟨by decide, by decide, by decide, by decide, trivial⟩, sap (sap (sap (sap (hx)))), ⟨by decide, by decide, by decide, by decide, trivial⟩, sap (sap (sap (sap (sap (hx))))), ⟨by decide, by decide, by decide, by decide, trivial⟩, sap (sap (sap (sap (sap (sap (hx)))))), sap (sap (sap (sap (sap (sap (hx)))))), k + 2, (by simp [u2]), 2, sap (sap (sap s2)), ⟨by decide, by decide⟩, ?_⟩
  have hK2 : X G mX8_init Q 109 [some (aR (some x0)), some (aI (30 : Nat))] [] (u2 I (k + 2) 1 95, wR R x0 k, L, S ++ [(5, 0)] ++ [(20, 96)] ++ [(20, 2)] ++ [(22, 12)] ++ [(23, 30)] ++ [(20, 2)] ++ List.replicate 12 (7, 0) ++ List.replicate 30 (3, 0), 0, 0, 0) := by
    refine B_X8_init_109 ⟨rfl, ?_⟩
    have es : S ++ [(5, 0)] ++ [(20, 96)] ++ [(20, 2)] ++ [(22, 12)] ++ [(23, 30)] ++ [(20, 2)] ++ List.replicate 12 (7, 0) ++ List.replicate 30 (3, 0) = S ++ shWb := by
      unfold shWb
      simp only [List.append_assoc, List.cons_append, List.nil_append]
    rw [es]
    exact hQ
  have a1 := L_X8_84 (R := rA (wR1 R x0 k) (k + 3) (k + 6) 12) (Q := Q) (a := k + 4) (b := x0) (o := k + 18) hG e18 (sap (sap (sap (sap (sap (sap (sap (hx)))))))) (sap (sap s4)) (by omega) (by rw [rA_ne _ _ (by omega)]; simp [wR1, u2]) (Zz_le zI6 (by omega)) (Zz_rA (Zz_le z6 (by omega)) (by omega) _ _) (Zz_le zL (by omega)) hK2 31 0 30 120 (by decide) (by decide) rfl rfl
  rw [rA_0, List.replicate_zero, List.append_nil] at a1
  have a2 := L_X8_57 (R := wR1 R x0 k) (Q := Q) (a := k + 3) (b := x0) (o := k + 6) hG e6 (sap (sap (sap (sap (sap (sap (hx))))))) (sap (sap s3)) (by omega) (by simp [wR1, u2]) zI6 z6 (Zz_le zL (by omega)) (B_X8_init_82 a1) 13 0 42 216 (by decide) (by decide) rfl rfl
  rw [rA_0, List.replicate_zero, List.append_nil] at a2
  exact a2
/-! ===== what is made: a history ===== -/
theorem wR_ne (R : Nat → Nat → Option Nat) {b k y : Nat} (j : Nat) (h1 : y ≠ b) (h2 : y < k) : wR R b k y j = R y j := by
  unfold wR wR1
  rw [rA_ne _ _ (by omega), rA_ne _ _ (by omega), u2_ne _ _ (by omega), u2_ne _ _ (by omega), u2_ne _ _ (by omega), u2_ne _ _ (by omega), u2_ne _ _ (by omega), u2_ne _ _ (by omega)]
theorem Zz_wR {R : Nat → Nat → Option Nat} {b k : Nat} (h : Zz R none k) (q : b < k) : Zz (wR R b k) none (k + 48) := fun y hy j => by
  unfold wR wR1
  rw [rA_ne _ _ (by omega), rA_ne _ _ (by omega), u2_ne _ _ (by omega), u2_ne _ _ (by omega), u2_ne _ _ (by omega), u2_ne _ _ (by omega), u2_ne _ _ (by omega), u2_ne _ _ (by omega)]
  exact h y (by omega) j
def hiI (I : Nat → Nat → Int) (o : Nat) : Nat → Nat → Nat → Int
  | 0 => I
  | i + 1 => u2 (hiI I o i) (o + 49 * i + 1 + 2) 1 95
def hiR (R : Nat → Nat → Option Nat) (a o : Nat) : Nat → Nat → Nat → Option Nat
  | 0 => R
  | i + 1 => u2 (wR (hiR R a o i) (o + 49 * i) (o + 49 * i + 1)) a i (some (o + 49 * i))
def hiS : Nat → List (Nat × Nat)
  | 0 => []
  | i + 1 => hiS i ++ ((8, 0) :: shWb)
theorem L_X1_14 {G : amG} {I : Nat → Nat → Int} {R : Nat → Nat → Option Nat} {L : Nat → Nat → Int64} {S : List (Nat × Nat)} {Q : amR → amH → Prop} (hG : amG0 G) {b a o : Nat} (hS : S.length = o) (hb : S[b]? = some (1, 0)) (ha : S[a]? = some (24, 5)) (hba : b ≠ a) (zL : Zz L 0 o) (hK : X G mX1_init Q 38 [some (aR (some b)), some (aI (5 : Nat))] [] (hiI I o 5, hiR R a o 5, L, S ++ hiS 5, 0, 0, 0)) :
    ∀ (n i c t : Nat), i ≤ 5 → 5 - i < n → c = 49 * (5 - i) → t = 369 * (5 - i) → Zz (hiI I o i) 0 (o + 49 * i) → Zz (hiR R a o i) none (o + 49 * i) → hiR R a o i b 0 = some a → (S ++ hiS i).length = o + 49 * i → X G mX1_init Q 14 [some (aR (some b)), some (aI (i : Nat))] [] (hiI I o i, hiR R a o i, L, S ++ hiS i, 0, c, t) := by
  have hao : a < o := by have := slt ha; omega
  have hbo : b < o := by have := slt hb; omega
  intro n
  induction n with
  | zero =>
    intros
    exfalso; omega
  | succ n ih =>
    intro i c t h1 h2 h3 h4 zi zr hr hl
    have zl : Zz L 0 (o + 49 * i) := Zz_le zL (by omega)
    refine B_X1_init_14 ?_
    try dsimp only
    rw [hl, Zz_u1 zi (Nat.le_refl _), Zz_u1 zr (Nat.le_refl _), Zz_u1 zl (Nat.le_refl _)]
    refine ⟨fun q => ?_, fun q => ?_⟩
    · have e : i = 5 := by omega
      have e1 : c = 0 := by omega
      have e2 : t = 0 := by omega
      subst e e1 e2
      exact hK
    · have sw : (S ++ hiS i ++ [(8, 0)])[o + 49 * i]? = some (8, 0) := by rw [← hl]; exact snew
      have sl : (S ++ hiS i ++ [(8, 0)]).length = o + 49 * i + 1 := by rw [sl1, hl]
      refine ⟨sap hb, a, hr, ⟨by omega, by omega, rfl⟩, rfl, ⟨by omega, by omega, Nat.le_of_ble_eq_true rfl⟩, trivial, ?_⟩
      refine D_X8_init hG (k := o + 49 * i + 1) sl sw (by rw [sl]; exact Zz_le zi (Nat.le_succ _)) (by rw [sl]; exact Zz_le zr (Nat.le_succ _)) (by rw [sl]; exact Zz_le zl (Nat.le_succ _)) ?_
      refine af_N (cc := 48) (tt := 359) rfl rfl rfl ?_
      try dsimp only
      refine B_X1_init_31 ?_
      try dsimp only
      have es : S ++ hiS i ++ [(8, 0)] ++ shWb = S ++ hiS (i + 1) := by
        show _ = S ++ (hiS i ++ ((8, 0) :: shWb))
        simp only [List.append_assoc, List.cons_append, List.nil_append]
      have lw : shWb.length = 48 := by decide
      refine ⟨24, 5, sap (sap (sap ha)), ⟨by decide, by decide⟩, sap sw, ⟨by omega, by omega⟩, (by refine ⟨?_, ?_⟩ <;> omega), ?_⟩
      rw [Int.toNat_natCast, es]
      refine ih (i + 1) _ _ (by omega) (by omega) (by omega) (by omega) (Zz_u2 (Zz_le zi (by omega)) (by omega) _ _) (Zz_u2 (Zz_le (Zz_wR (Zz_le zr (Nat.le_succ _)) (by omega)) (by omega)) (by omega) _ _) ?_ (by rw [← es, List.length_append, sl, lw]; omega)
      show u2 (wR (hiR R a o i) (o + 49 * i) (o + 49 * i + 1)) a i (some (o + 49 * i)) b 0 = some a
      rw [u2_ne _ _ (by omega), wR_ne _ _ (by omega) (by omega)]
      exact hr
theorem D_X1_init {G : amG} {I : Nat → Nat → Int} {R : Nat → Nat → Option Nat} {L : Nat → Nat → Int64} {S : List (Nat × Nat)} {c t : Nat} {Q : amR → amH → Prop} (hG : amG0 G) {x0 : Nat} {k : Nat} (hk : S.length = k) (hx : S[x0]? = some (1, 0)) (zI : Zz I 0 S.length) (zR : Zz R none S.length) (zL : Zz L 0 S.length) (hQ : Q (Sum.inl none) (hiI I (k + 1) 5, hiR (u2 R x0 0 (some k)) k (k + 1) 5, L, S ++ [(24, 5)] ++ hiS 5, 0, 0, 0)) : CT G sX1_init [aR (some x0)] (I, R, L, S, 0, c, t) Q := by
  have hlt := slt hx
  refine CT_of ok_X1_init hG (Nat.le_of_ble_eq_true rfl) ?_
  show X G mX1_init Q 0 _ [] (I, R, L, S, 0, 246, 1850)
  refine B_X1_init_0 ?_
  try dsimp only
  rw [Zz_u1 zI (Nat.le_refl _), Zz_u1 zR (Nat.le_refl _), Zz_u1 zL (Nat.le_refl _)]
  have hl : (S ++ [(24, 5)]).length = k + 1 := by rw [sl1, hk]
  have s0 : (S ++ [(24, 5)])[k]? = some (24, 5) := by rw [← hk]; exact snew
  rw [hk] at zI zR zL hlt
  rw [hk]
  refine ⟨(by first | rfl | exact Nat.le_of_ble_eq_true rfl), ⟨by decide, by decide, by decide, by decide, rfl⟩, sap hx, ?_⟩
  have e := L_X1_14 (I := I) (R := u2 R x0 0 (some k)) (Q := Q) hG hl (sap hx) s0 (by omega) (Zz_le zL (Nat.le_succ _)) (B_X1_init_38 ⟨rfl, hQ⟩) 6 0 245 1845 (by decide) (by decide) rfl rfl (Zz_le zI (by omega)) (Zz_u2 (Zz_le zR (by omega)) (by omega) _ _) (u2_same _ _ _ _) (by show (S ++ [(24, 5)] ++ []).length = _; rw [List.append_nil, hl])
  have e0 : S ++ [(24, 5)] ++ hiS 0 = S ++ [(24, 5)] := List.append_nil _
  rw [e0] at e
  exact e
/-! ===== what is made: the class, its two wars ===== -/
theorem S_X9_0 {G : amG} {I : Nat → Nat → Int} {R : Nat → Nat → Option Nat} {L : Nat → Nat → Int64} {S : List (Nat × Nat)} {c t : Nat} {Q : amR → amH → Prop} (hG : amG0 G) {x0 k : Nat} (hk : S.length = k) (hx : S[x0]? = some (9, 0)) (hc : 49 ≤ c) (ht : 369 ≤ t) (zI : Zz I 0 k) (zR : Zz R none k) (zL : Zz L 0 k) (hK : X G mX9_init Q 12 [some (aR (some x0))] [aR (some k), aR (some x0)] (u2 I (k + 1 + 2) 1 95, wR R k (k + 1), L, S ++ [(8, 0)] ++ shWb, 0, c - 1 - 48, t - 10 - 359)) : X G mX9_init Q 0 [some (aR (some x0))] [] (I, R, L, S, 0, c, t) := by
  have hlt := slt hx
  have sw : (S ++ [(8, 0)])[k]? = some (8, 0) := by rw [← hk]; exact snew
  have sl : (S ++ [(8, 0)]).length = k + 1 := by rw [sl1, hk]
  rw [hk] at hlt
  refine B_X9_init_0 ?_
  try dsimp only
  rw [hk, Zz_u1 zI (Nat.le_refl _), Zz_u1 zR (Nat.le_refl _), Zz_u1 zL (Nat.le_refl _)]
  refine ⟨Nat.le_of_ble_eq_true rfl, ⟨by omega, by omega, rfl⟩, rfl, ⟨by omega, by omega, Nat.le_of_ble_eq_true rfl⟩, trivial, ?_⟩
  refine D_X8_init hG (k := k + 1) sl sw (by rw [sl]; exact Zz_le zI (Nat.le_succ _)) (by rw [sl]; exact Zz_le zR (Nat.le_succ _)) (by rw [sl]; exact Zz_le zL (Nat.le_succ _)) ?_
  refine af_N (cc := 48) (tt := 359) rfl rfl rfl ?_
  try dsimp only
  exact hK
theorem S_X9_12 {G : amG} {I : Nat → Nat → Int} {R : Nat → Nat → Option Nat} {L : Nat → Nat → Int64} {S : List (Nat × Nat)} {c t : Nat} {Q : amR → amH → Prop} (hG : amG0 G) {x0 k : Nat} (hk : S.length = k) (hx : S[x0]? = some (9, 0)) (hc : 49 ≤ c) (ht : 369 ≤ t) (zI : Zz I 0 k) (zR : Zz R none k) (zL : Zz L 0 k) {y0 : Nat} (hK : X G mX9_init Q 23 [some (aR (some x0))] [aR (some k), aR (some x0)] (u2 I (k + 1 + 2) 1 95, wR (u2 R x0 0 (some y0)) k (k + 1), L, S ++ [(8, 0)] ++ shWb, 0, c - 1 - 48, t - 10 - 359)) : X G mX9_init Q 12 [some (aR (some x0))] [aR (some y0), aR (some x0)] (I, R, L, S, 0, c, t) := by
  have hlt := slt hx
  have sw : (S ++ [(8, 0)])[k]? = some (8, 0) := by rw [← hk]; exact snew
  have sl : (S ++ [(8, 0)]).length = k + 1 := by rw [sl1, hk]
  rw [hk] at hlt
  refine B_X9_init_12 ?_
  try dsimp only
  rw [hk, Zz_u1 zI (Nat.le_refl _), Zz_u1 (Zz_u2 zR hlt _ _) (Nat.le_refl _), Zz_u1 zL (Nat.le_refl _)]
  refine ⟨hx, ⟨by omega, by omega, rfl⟩, rfl, ⟨by omega, by omega, Nat.le_of_ble_eq_true rfl⟩, trivial, ?_⟩
  refine D_X8_init hG (k := k + 1) sl sw (by rw [sl]; exact Zz_le zI (Nat.le_succ _)) (by rw [sl]; exact Zz_le (Zz_u2 zR hlt _ _) (Nat.le_succ _)) (by rw [sl]; exact Zz_le zL (Nat.le_succ _)) ?_
  refine af_N (cc := 48) (tt := 359) rfl rfl rfl ?_
  try dsimp only
  exact hK
/-! ===== what is made: the class, its other parts ===== -/
theorem S_X9_23 {G : amG} {I : Nat → Nat → Int} {R : Nat → Nat → Option Nat} {L : Nat → Nat → Int64} {S : List (Nat × Nat)} {c t : Nat} {Q : amR → amH → Prop} (hG : amG0 G) {x0 k y0 : Nat} (hk : S.length = k) (hx : S[x0]? = some (9, 0)) (hc : 247 ≤ c) (ht : 1852 ≤ t) (zI : Zz I 0 k) (zR : Zz R none k) (zL : Zz L 0 k) (hK : X G mX9_init Q 34 [some (aR (some x0))] [aR (some k), aR (some x0)] (hiI I (k + 1 + 1) 5, hiR (u2 (u2 R x0 1 (some y0)) k 0 (some (k + 1))) (k + 1) (k + 1 + 1) 5, L, S ++ [(1, 0)] ++ [(24, 5)] ++ hiS 5, 0, c - 1 - 246, t - 2 - 1850)) : X G mX9_init Q 23 [some (aR (some x0))] [aR (some y0), aR (some x0)] (I, R, L, S, 0, c, t) := by
  have hlt := slt hx
  have sw : (S ++ [(1, 0)])[k]? = some (1, 0) := by rw [← hk]; exact snew
  have sl : (S ++ [(1, 0)]).length = k + 1 := by rw [sl1, hk]
  rw [hk] at hlt
  refine B_X9_init_23 ?_
  try dsimp only
  rw [hk, Zz_u1 zI (Nat.le_refl _), Zz_u1 (Zz_u2 zR hlt _ _) (Nat.le_refl _), Zz_u1 zL (Nat.le_refl _)]
  refine ⟨hx, ⟨by omega, by omega, rfl⟩, rfl, ⟨by omega, by omega, Nat.le_of_ble_eq_true rfl⟩, trivial, ?_⟩
  refine D_X1_init hG (k := k + 1) sl sw (by rw [sl]; exact Zz_le zI (Nat.le_succ _)) (by rw [sl]; exact Zz_le (Zz_u2 zR hlt _ _) (Nat.le_succ _)) (by rw [sl]; exact Zz_le zL (Nat.le_succ _)) ?_
  refine af_N (cc := 246) (tt := 1850) rfl rfl rfl ?_
  try dsimp only
  try rw [sl]
  exact hK
theorem S_X9_34 {G : amG} {I : Nat → Nat → Int} {R : Nat → Nat → Option Nat} {L : Nat → Nat → Int64} {S : List (Nat × Nat)} {c t : Nat} {Q : amR → amH → Prop} (hG : amG0 G) {x0 k y0 : Nat} (hk : S.length = k) (hx : S[x0]? = some (9, 0)) (hc : 4 ≤ c) (ht : 84 ≤ t) (zI : Zz I 0 k) (zR : Zz R none k) (zL : Zz L 0 k) (hK : X G mX9_init Q 45 [some (aR (some x0))] [aR (some k), aR (some x0)] (I, u2 (u2 (u2 (u2 R x0 2 (some y0)) k 0 (some (k + 1))) k 2 (some (k + 1 + 1))) k 3 (some (k + 1 + 2)), L, S ++ [(6, 0)] ++ [(20, 60)] ++ [(20, 10)] ++ [(20, 10)], 0, c - 1 - 3, t - 4 - 80)) : X G mX9_init Q 34 [some (aR (some x0))] [aR (some y0), aR (some x0)] (I, R, L, S, 0, c, t) := by
  have hlt := slt hx
  have sw : (S ++ [(6, 0)])[k]? = some (6, 0) := by rw [← hk]; exact snew
  have sl : (S ++ [(6, 0)]).length = k + 1 := by rw [sl1, hk]
  rw [hk] at hlt
  refine B_X9_init_34 ?_
  try dsimp only
  rw [hk, Zz_u1 zI (Nat.le_refl _), Zz_u1 (Zz_u2 zR hlt _ _) (Nat.le_refl _), Zz_u1 zL (Nat.le_refl _)]
  refine ⟨hx, ⟨by omega, by omega, rfl⟩, rfl, ⟨by omega, by omega, Nat.le_of_ble_eq_true rfl⟩, trivial, ?_⟩
  refine D_X6_init hG sw (by rw [sl]; exact Zz_le zI (Nat.le_succ _)) (by rw [sl]; exact Zz_le (Zz_u2 zR hlt _ _) (Nat.le_succ _)) (by rw [sl]; exact Zz_le zL (Nat.le_succ _)) ?_
  refine af_N (cc := 3) (tt := 80) rfl rfl rfl ?_
  try dsimp only
  try rw [sl]
  exact hK
theorem S_X9_45 {G : amG} {I : Nat → Nat → Int} {R : Nat → Nat → Option Nat} {L : Nat → Nat → Int64} {S : List (Nat × Nat)} {c t : Nat} {Q : amR → amH → Prop} (hG : amG0 G) {x0 k y0 : Nat} (hk : S.length = k) (hx : S[x0]? = some (9, 0)) (hc : 6 ≤ c) (ht : 389 ≤ t) (zI : Zz I 0 k) (zR : Zz R none k) (zL : Zz L 0 k) (hK : X G mX9_init Q 56 [some (aR (some x0))] [aR (some k), aR (some x0)] (I, u2 (u2 (u2 (u2 (u2 (u2 R x0 3 (some y0)) (k + 1) 0 (some (k + 1 + 1))) (k + 1) 1 (some (k + 1 + 2))) (k + 1) 2 (some (k + 1 + 3))) k 0 (some (k + 1))) k 1 (some (k + 1 + 4)), L, S ++ [(0, 0)] ++ [(4, 0)] ++ [(20, 96)] ++ [(20, 96)] ++ [(20, 96)] ++ [(20, 96)], 0, c - 1 - 5, t - 2 - 387)) : X G mX9_init Q 45 [some (aR (some x0))] [aR (some y0), aR (some x0)] (I, R, L, S, 0, c, t) := by
  have hlt := slt hx
  have sw : (S ++ [(0, 0)])[k]? = some (0, 0) := by rw [← hk]; exact snew
  have sl : (S ++ [(0, 0)]).length = k + 1 := by rw [sl1, hk]
  rw [hk] at hlt
  refine B_X9_init_45 ?_
  try dsimp only
  rw [hk, Zz_u1 zI (Nat.le_refl _), Zz_u1 (Zz_u2 zR hlt _ _) (Nat.le_refl _), Zz_u1 zL (Nat.le_refl _)]
  refine ⟨hx, ⟨by omega, by omega, rfl⟩, rfl, ⟨by omega, by omega, Nat.le_of_ble_eq_true rfl⟩, trivial, ?_⟩
  refine D_X0_init hG sw (by rw [sl]; exact Zz_le zI (Nat.le_succ _)) (by rw [sl]; exact Zz_le (Zz_u2 zR hlt _ _) (Nat.le_succ _)) (by rw [sl]; exact Zz_le zL (Nat.le_succ _)) ?_
  refine af_N (cc := 5) (tt := 387) rfl rfl rfl ?_
  try dsimp only
  try rw [sl]
  exact hK
theorem S_X9_56 {G : amG} {I : Nat → Nat → Int} {R : Nat → Nat → Option Nat} {L : Nat → Nat → Int64} {S : List (Nat × Nat)} {c t : Nat} {Q : amR → amH → Prop} (hG : amG0 G) {x0 k y0 : Nat} (hk : S.length = k) (hx : S[x0]? = some (9, 0)) (hc : 5 ≤ c) (ht : 292 ≤ t) (zI : Zz I 0 k) (zR : Zz R none k) (zL : Zz L 0 k) (hK : X G mX9_init Q 67 [some (aR (some x0))] [aR (some k), aR (some x0)] (I, u2 (u2 (u2 (u2 (u2 R x0 4 (some y0)) (k + 1) 0 (some (k + 1 + 1))) (k + 1) 1 (some (k + 1 + 2))) (k + 1) 2 (some (k + 1 + 3))) k 0 (some (k + 1)), L, S ++ [(2, 0)] ++ [(4, 0)] ++ [(20, 96)] ++ [(20, 96)] ++ [(20, 96)], 0, c - 1 - 4, t - 1 - 291)) : X G mX9_init Q 56 [some (aR (some x0))] [aR (some y0), aR (some x0)] (I, R, L, S, 0, c, t) := by
  have hlt := slt hx
  have sw : (S ++ [(2, 0)])[k]? = some (2, 0) := by rw [← hk]; exact snew
  have sl : (S ++ [(2, 0)]).length = k + 1 := by rw [sl1, hk]
  rw [hk] at hlt
  refine B_X9_init_56 ?_
  try dsimp only
  rw [hk, Zz_u1 zI (Nat.le_refl _), Zz_u1 (Zz_u2 zR hlt _ _) (Nat.le_refl _), Zz_u1 zL (Nat.le_refl _)]
  refine ⟨hx, ⟨by omega, by omega, rfl⟩, rfl, ⟨by omega, by omega, Nat.le_of_ble_eq_true rfl⟩, trivial, ?_⟩
  refine D_X2_init hG sw (by rw [sl]; exact Zz_le zI (Nat.le_succ _)) (by rw [sl]; exact Zz_le (Zz_u2 zR hlt _ _) (Nat.le_succ _)) (by rw [sl]; exact Zz_le zL (Nat.le_succ _)) ?_
  refine af_N (cc := 4) (tt := 291) rfl rfl rfl ?_
  try dsimp only
  try rw [sl]
  exact hK
/-! ===== what is made: the class, joined ===== -/
theorem Zz_hiI {I : Nat → Nat → Int} {o : Nat} (h : Zz I 0 o) : ∀ i : Nat, Zz (hiI I o i) 0 (o + 49 * i) := fun i => by
  induction i with
  | zero => exact h
  | succ i ih => exact Zz_u2 (Zz_le ih (by omega)) (by omega) _ _
theorem Zz_hiR {R : Nat → Nat → Option Nat} {a o : Nat} (h : Zz R none o) (q : a < o) : ∀ i : Nat, Zz (hiR R a o i) none (o + 49 * i) := fun i => by
  induction i with
  | zero => exact h
  | succ i ih => exact Zz_u2 (Zz_le (Zz_wR (Zz_le ih (Nat.le_succ _)) (by omega)) (by omega)) (by omega) _ _
def i9a : Nat → Nat → Int := u2 (fun _ _ => (0 : Int)) 4 1 95
def i9b : Nat → Nat → Int := u2 i9a 53 1 95
def i9c : Nat → Nat → Int := hiI i9b 101 5
def r9a : Nat → Nat → Option Nat := wR (fun _ _ => none) 1 2
def r9b : Nat → Nat → Option Nat := wR (u2 r9a 0 0 (some 1)) 50 51
def r9c : Nat → Nat → Option Nat := hiR (u2 (u2 r9b 0 1 (some 50)) 99 0 (some 100)) 100 101 5
def r9d : Nat → Nat → Option Nat := u2 (u2 (u2 (u2 r9c 0 2 (some 99)) 346 0 (some 347)) 346 2 (some 348)) 346 3 (some 349)
def r9e : Nat → Nat → Option Nat := u2 (u2 (u2 (u2 (u2 (u2 r9d 0 3 (some 346)) 351 0 (some 352)) 351 1 (some 353)) 351 2 (some 354)) 350 0 (some 351)) 350 1 (some 355)
def r9f : Nat → Nat → Option Nat := u2 (u2 (u2 (u2 (u2 r9e 0 4 (some 350)) 357 0 (some 358)) 357 1 (some 359)) 357 2 (some 360)) 356 0 (some 357)
def r9 : Nat → Nat → Option Nat := u2 r9f 0 5 (some 356)
def s9a : List (Nat × Nat) := [(9, 0)] ++ [(8, 0)] ++ shWb
def s9b : List (Nat × Nat) := s9a ++ [(8, 0)] ++ shWb
def s9c : List (Nat × Nat) := s9b ++ [(1, 0)] ++ [(24, 5)] ++ hiS 5
def s9d : List (Nat × Nat) := s9c ++ [(6, 0)] ++ [(20, 60)] ++ [(20, 10)] ++ [(20, 10)]
def s9e : List (Nat × Nat) := s9d ++ [(0, 0)] ++ [(4, 0)] ++ [(20, 96)] ++ [(20, 96)] ++ [(20, 96)] ++ [(20, 96)]
def s9 : List (Nat × Nat) := s9e ++ [(2, 0)] ++ [(4, 0)] ++ [(20, 96)] ++ [(20, 96)] ++ [(20, 96)]
theorem s9_SH : s9 = SH0 := by decide +kernel
theorem zL9 (k : Nat) : Zz (fun _ _ => (0 : Int64)) 0 k := fun _ _ _ => rfl
theorem zIa : Zz i9a 0 50 := Zz_u2 (fun _ _ _ => rfl) (by decide) _ _
theorem zIb : Zz i9b 0 99 := Zz_u2 (Zz_le zIa (by decide)) (by decide) _ _
theorem zIc : Zz i9c 0 346 := Zz_hiI (Zz_le zIb (by decide)) 5
theorem zRa : Zz r9a none 50 := Zz_wR (fun _ _ _ => rfl) (by decide)
theorem zRb : Zz r9b none 99 := Zz_wR (Zz_u2 (Zz_le zRa (by decide)) (by decide) _ _) (by decide)
theorem zRc : Zz r9c none 346 := Zz_hiR (Zz_u2 (Zz_u2 (Zz_le zRb (by decide)) (by decide) _ _) (by decide) _ _) (by decide) 5
theorem zRd : Zz r9d none 350 := Zz_u2 (Zz_u2 (Zz_u2 (Zz_u2 (Zz_le zRc (by decide)) (by decide) _ _) (by decide) _ _) (by decide) _ _) (by decide) _ _
theorem zRe : Zz r9e none 356 := Zz_u2 (Zz_u2 (Zz_u2 (Zz_u2 (Zz_u2 (Zz_u2 (Zz_le zRd (by decide)) (by decide) _ _) (by decide) _ _) (by decide) _ _) (by decide) _ _) (by decide) _ _) (by decide) _ _
theorem D_X9_init {G : amG} {c t : Nat} {Q : amR → amH → Prop} (hG : amG0 G) (hQ : Q (Sum.inl none) (i9c, r9, fun _ _ => 0, s9, 0, 0, 0)) : CT G sX9_init [aR (some 0)] (fun _ _ => 0, fun _ _ => none, fun _ _ => 0, [(9, 0)], 0, c, t) Q := by
  refine CT_of ok_X9_init hG (Nat.le_of_ble_eq_true rfl) ?_
  show X G mX9_init Q 0 _ [] (fun _ _ => 0, fun _ _ => none, fun _ _ => 0, [(9, 0)], 0, 360, 3355)
  have h6 : X G mX9_init Q 67 [some (aR (some 0))] [aR (some 356), aR (some 0)] (i9c, r9f, fun _ _ => 0, s9, 0, 0, 0) := by
    refine B_X9_init_67 ⟨?_, rfl, hQ⟩
    show s9[0]? = some (9, 0)
    decide +kernel
  have h5 : X G mX9_init Q 56 [some (aR (some 0))] [aR (some 350), aR (some 0)] (i9c, r9e, fun _ _ => 0, s9e, 0, 5, 292) := S_X9_56 hG (k := 356) (by decide +kernel) (by decide +kernel) (by decide) (by decide) (Zz_le zIc (by decide)) zRe (zL9 _) h6
  have h4 : X G mX9_init Q 45 [some (aR (some 0))] [aR (some 346), aR (some 0)] (i9c, r9d, fun _ _ => 0, s9d, 0, 11, 681) := S_X9_45 hG (k := 350) (by decide +kernel) (by decide +kernel) (by decide) (by decide) (Zz_le zIc (by decide)) zRd (zL9 _) h5
  have h3 : X G mX9_init Q 34 [some (aR (some 0))] [aR (some 99), aR (some 0)] (i9c, r9c, fun _ _ => 0, s9c, 0, 15, 765) := S_X9_34 hG (k := 346) (by decide +kernel) (by decide +kernel) (by decide) (by decide) zIc zRc (zL9 _) h4
  have h2 : X G mX9_init Q 23 [some (aR (some 0))] [aR (some 50), aR (some 0)] (i9b, r9b, fun _ _ => 0, s9b, 0, 262, 2617) := S_X9_23 hG (k := 99) (by decide +kernel) (by decide +kernel) (by decide) (by decide) zIb zRb (zL9 _) h3
  have h1 : X G mX9_init Q 12 [some (aR (some 0))] [aR (some 1), aR (some 0)] (i9a, r9a, fun _ _ => 0, s9a, 0, 311, 2986) := S_X9_12 hG (k := 50) (by decide +kernel) (by decide +kernel) (by decide) (by decide) zIa zRa (zL9 _) h2
  exact S_X9_0 hG (k := 1) rfl rfl (by decide) (by decide) (fun _ _ _ => rfl) (fun _ _ _ => rfl) (zL9 _) h1
