/-! ===== what is made: a history ===== -/
theorem wR_ne (R : Nat → Nat → Option Nat) {b k y : Nat} (j : Nat) (h1 : y ≠ b) (h2 : y < k) : wR R b k y j = R y j := by
  unfold wR wR1
  rw [rA_ne _ _ (by omega), rA_ne _ _ (by omega), u2_ne _ _ (by omega), u2_ne _ _ (by omega), u2_ne _ _ (by omega), u2_ne _ _ (by omega), u2_ne _ _ (by omega), u2_ne _ _ (by omega)]
theorem Zz_wR {R : Nat → Nat → Option Nat} {b k : Nat} (h : Zz R none k) (q : b < k) : Zz (wR R b k) none (k + 48) := fun y hy j => by
  unfold wR wR1
  rw [rA_ne _ _ (by omega), rA_ne _ _ (by omega), u2_ne _ _ (by omega), u2_ne _ _ (by omega), u2_ne _ _ (by omega), u2_ne _ _ (by omega), u2_ne _ _ (by omega), u2_ne _ _ (by omega)]
  exact h y (by omega) j
def hiI (I : Nat → Nat → Int) (o : Nat) : Nat → Nat → Nat → Int
  | 0 => I
  | i + 1 => u2 (hiI I o i) (o + 49 * i + 1 + 2) 1 95
def hiR (R : Nat → Nat → Option Nat) (a o : Nat) : Nat → Nat → Nat → Option Nat
  | 0 => R
  | i + 1 => u2 (wR (hiR R a o i) (o + 49 * i) (o + 49 * i + 1)) a i (some (o + 49 * i))
def hiS : Nat → List (Nat × Nat)
  | 0 => []
  | i + 1 => hiS i ++ ((8, 0) :: shWb)
theorem L_X1_14 {G : amG} {I : Nat → Nat → Int} {R : Nat → Nat → Option Nat} {L : Nat → Nat → Int64} {S : List (Nat × Nat)} {Q : amR → amH → Prop} (hG : amG0 G) {b a o : Nat} (hS : S.length = o) (hb : S[b]? = some (1, 0)) (ha : S[a]? = some (24, 5)) (hba : b ≠ a) (zL : Zz L 0 o) (hK : X G mX1_init Q 38 [some (aR (some b)), some (aI (5 : Nat))] [] (hiI I o 5, hiR R a o 5, L, S ++ hiS 5, 0, 0, 0)) :
    ∀ (n i c t : Nat), i ≤ 5 → 5 - i < n → c = 49 * (5 - i) → t = 369 * (5 - i) → Zz (hiI I o i) 0 (o + 49 * i) → Zz (hiR R a o i) none (o + 49 * i) → hiR R a o i b 0 = some a → (S ++ hiS i).length = o + 49 * i → X G mX1_init Q 14 [some (aR (some b)), some (aI (i : Nat))] [] (hiI I o i, hiR R a o i, L, S ++ hiS i, 0, c, t) := by
  have hao : a < o := by have := slt ha; omega
  have hbo : b < o := by have := slt hb; omega
  intro n
  induction n with
  | zero =>
    intros
    exfalso; omega
  | succ n ih =>
    intro i c t h1 h2 h3 h4 zi zr hr hl
    have zl : Zz L 0 (o + 49 * i) := Zz_le zL (by omega)
    refine B_X1_init_14 ?_
    try dsimp only
    rw [hl, Zz_u1 zi (Nat.le_refl _), Zz_u1 zr (Nat.le_refl _), Zz_u1 zl (Nat.le_refl _)]
    refine ⟨fun q => ?_, fun q => ?_⟩
    · have e : i = 5 := by omega
      have e1 : c = 0 := by omega
      have e2 : t = 0 := by omega
      subst e e1 e2
      exact hK
    · have sw : (S ++ hiS i ++ [(8, 0)])[o + 49 * i]? = some (8, 0) := by rw [← hl]; exact snew
      have sl : (S ++ hiS i ++ [(8, 0)]).length = o + 49 * i + 1 := by rw [sl1, hl]
      refine ⟨sap hb, a, hr, ⟨by omega, by omega, rfl⟩, rfl, ⟨by omega, by omega, Nat.le_of_ble_eq_true rfl⟩, trivial, ?_⟩
      refine D_X8_init hG (k := o + 49 * i + 1) sl sw (by rw [sl]; exact Zz_le zi (Nat.le_succ _)) (by rw [sl]; exact Zz_le zr (Nat.le_succ _)) (by rw [sl]; exact Zz_le zl (Nat.le_succ _)) ?_
      refine af_N (cc := 48) (tt := 359) rfl rfl rfl ?_
      try dsimp only
      refine B_X1_init_31 ?_
      try dsimp only
      have es : S ++ hiS i ++ [(8, 0)] ++ shWb = S ++ hiS (i + 1) := by
        show _ = S ++ (hiS i ++ ((8, 0) :: shWb))
        simp only [List.append_assoc, List.cons_append, List.nil_append]
      have lw : shWb.length = 48 := by decide
      refine ⟨24, 5, sap (sap (sap ha)), ⟨by decide, by decide⟩, sap sw, ⟨by omega, by omega⟩, (by refine ⟨?_, ?_⟩ <;> omega), ?_⟩
      rw [Int.toNat_natCast, es]
      refine ih (i + 1) _ _ (by omega) (by omega) (by omega) (by omega) (Zz_u2 (Zz_le zi (by omega)) (by omega) _ _) (Zz_u2 (Zz_le (Zz_wR (Zz_le zr (Nat.le_succ _)) (by omega)) (by omega)) (by omega) _ _) ?_ (by rw [← es, List.length_append, sl, lw]; omega)
      show u2 (wR (hiR R a o i) (o + 49 * i) (o + 49 * i + 1)) a i (some (o + 49 * i)) b 0 = some a
      rw [u2_ne _ _ (by omega), wR_ne _ _ (by omega) (by omega)]
      exact hr
