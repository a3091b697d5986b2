/-! ===== losses are taken ===== -/
theorem fB_inv {y : Row} : ∀ j : Nat, j ≤ 12 → (∀ l : Nat, l < j → (0 ≤ tf y l 0 ∧ tf y l 0 ≤ 1) ∧ 0 ≤ tf y l 6 ∧ tf y l 6 ≤ 20) →
    (∀ i : Nat, i < 99 ∨ (195 ≤ i ∧ i ≠ 319 ∧ i ≠ 320) → fB y j i = y i) ∧
    (∀ l g : Nat, l < 12 → g < 8 → tf (fB y j) l g = if l < j ∧ g = 2 then tf y l 2 - tf y l 6 else if l < j ∧ g = 4 then (if tf y l 2 - tf y l 6 = 0 then 2 else tf y l 4) else tf y l g) ∧
    (y 319 ≤ fB y j 319 ∧ fB y j 319 ≤ y 319 + 20 * j) ∧ (y 320 ≤ fB y j 320 ∧ fB y j 320 ≤ y 320 + 20 * j) := by
  intro j
  induction j with
  | zero =>
    intro _ _
    refine ⟨fun i _ => rfl, fun l g _ _ => ?_, ?_, ?_⟩
    · rw [if_neg (fun w => absurd w.1 (Nat.not_lt_zero _)), if_neg (fun w => absurd w.1 (Nat.not_lt_zero _))]
      rfl
    · show y 319 ≤ y 319 ∧ y 319 ≤ y 319 + 20 * ((0 : Nat) : Int)
      omega
    · show y 320 ≤ y 320 ∧ y 320 ≤ y 320 + 20 * ((0 : Nat) : Int)
      omega
  | succ j ih =>
    intro hj hs
    obtain ⟨h1, h2, h3, h4⟩ := ih (by omega) (fun l hl => hs l (by omega))
    have hsj := hs j (Nat.lt_succ_self j)
    rw [fB_s]
    generalize fB y j = w at *
    have w0 : w (99 + 8 * j + 0) = tf y j 0 := by have := h2 j 0 (by omega) (by decide); rw [if_neg (by omega), if_neg (by omega)] at this; exact this
    have w2 : w (99 + 8 * j + 2) = tf y j 2 := by have := h2 j 2 (by omega) (by decide); rw [if_neg (by omega), if_neg (by omega)] at this; exact this
    have w4 : w (99 + 8 * j + 4) = tf y j 4 := by have := h2 j 4 (by omega) (by decide); rw [if_neg (by omega), if_neg (by omega)] at this; exact this
    have w6 : w (99 + 8 * j + 6) = tf y j 6 := by have := h2 j 6 (by omega) (by decide); rw [if_neg (by omega), if_neg (by omega)] at this; exact this
    unfold fB1
    rw [w0, w2, w4, w6]
    generalize hq : (319 + tf y j 0).toNat = q
    have q1 : q = 319 ∨ q = 320 := by omega
    refine ⟨fun i hi => ?_, fun l g hl hg => ?_, ?_, ?_⟩
    · rw [uz_ne _ _ (by omega), uz_ne _ _ (by omega), uz_ne _ _ (by omega)]
      exact h1 i hi
    · rw [tf_uz (by decide) hg]
      by_cases e4 : l = j ∧ g = 4
      · rw [if_pos e4, if_neg (show ¬ (l < j + 1 ∧ g = 2) by omega), if_pos (show l < j + 1 ∧ g = 4 by omega), e4.1]
      · rw [if_neg e4, tf_off (by omega) hl hg, tf_uz (by decide) hg]
        by_cases e2 : l = j ∧ g = 2
        · rw [if_pos e2, if_pos (by omega), e2.1]
        · rw [if_neg e2, h2 l g hl hg]
          by_cases c2 : l < j ∧ g = 2
          · rw [if_pos c2, if_pos (by omega)]
          · by_cases c4 : l < j ∧ g = 4
            · rw [if_neg c2, if_pos c4, if_neg (show ¬ (l < j + 1 ∧ g = 2) by omega), if_pos (show l < j + 1 ∧ g = 4 by omega)]
            · rw [if_neg c2, if_neg c4, if_neg (by omega), if_neg (by omega)]
    · rw [uz_ne _ _ (by omega : 319 ≠ 99 + 8 * j + 4)]
      rcases q1 with q1 | q1
      · rw [q1, uz_same]; omega
      · rw [q1, uz_ne _ _ (by decide), uz_ne _ _ (by omega)]; omega
    · rw [uz_ne _ _ (by omega : 320 ≠ 99 + 8 * j + 4)]
      rcases q1 with q1 | q1
      · rw [q1, uz_ne _ _ (by decide), uz_ne _ _ (by omega)]; omega
      · rw [q1, uz_same]; omega
