/-! ===== the model: who stands where, steps ===== -/
theorem C_isGone {G : amG} {I : Nat → Nat → Int} {R : Nat → Nat → Option Nat} {L : Nat → Nat → Int64} {x c t : Nat} {Q : amR → amH → Prop} (hG : amG0 G) (hR : RM R) {k : Int} (hk : 0 ≤ k ∧ k < 12) (hQ : ∀ r : Int, (tf (I 362) k.toNat 4 = 2 ∧ r = 1) ∨ (tf (I 362) k.toNat 4 ≠ 2 ∧ r = 0) → Q (Sum.inl (some (aI r))) (I, R, L, SH, x, 0, 0)) : CT G sX10_isGone [aR (some 361), aI k] (I, R, L, SH, x, c, t) Q := by
  refine CT_of ok_X10_isGone hG (Nat.le_of_ble_eq_true rfl) ?_
  show X G mX10_isGone Q 0 _ [] (I, R, L, SH, x, 0, 0)
  refine B_X10_isGone_0 ?_
  try dsimp only
  refine ⟨⟨Nat.zero_le _, Nat.zero_le _, Nat.le_of_ble_eq_true rfl⟩, sh361, ?_⟩
  refine C_of hG hR hk (by decide) (fun r hr => ?_)
  have hr : r = tf (I 362) k.toNat 4 := hr
  refine af_I0 rfl rfl (by decide) ?_
  try dsimp only
  refine B_X10_isGone_6 ?_
  try dsimp only
  refine ⟨fun c7_1 => ?_, fun c7_1 => ?_⟩
  · refine B_X10_isGone_14 ?_
    try dsimp only
    refine B_X10_isGone_15 ?_
    try dsimp only
    refine ⟨by first | exact Or.inl rfl | exact Or.inr rfl | omega, ?_⟩
    exact hQ _ (by first | exact Or.inl ⟨by omega, rfl⟩ | exact Or.inr ⟨by omega, rfl⟩)
  · refine B_X10_isGone_15 ?_
    try dsimp only
    refine ⟨by first | exact Or.inl rfl | exact Or.inr rfl | omega, ?_⟩
    exact hQ _ (by first | exact Or.inl ⟨by omega, rfl⟩ | exact Or.inr ⟨by omega, rfl⟩)
theorem L_troopAt {G : amG} {I : Nat → Nat → Int} {R : Nat → Nat → Option Nat} {L : Nat → Nat → Int64} {x : Nat} {Q : amR → amH → Prop} (hG : amG0 G) (hR : RM R) {v : Int} (hn : wfN (I 362)) (hQ : ∀ r : Int, r = tAt (I 362) v → Q (Sum.inl (some (aI r))) (I, R, L, SH, x, 0, 0)) :
    ∀ (n : Nat) (j f : Int), 0 ≤ j → I 362 98 - j < n ∧ j ≤ I 362 98 → f = tA (I 362) v j.toNat → X G mX10_troopAt Q 4 [some (aR (some 361)), some (aI v), some (aI f), some (aI j)] [] (I, R, L, SH, x, 0, 0) := by
  intro n
  induction n with
  | zero =>
    intros
    exfalso; omega
  | succ n ih =>
    intro j f h0 h1 hf
    have hn1 := hn.1
    have hn2 := hn.2
    refine B_X10_troopAt_4 ?_
    try dsimp only
    refine ⟨sh361, _, hR.z, ?_⟩
    refine ⟨_, sh362, ⟨by omega, by omega⟩, ?_⟩
    refine ⟨fun c12_0 => ?_, fun c12_0 => ?_⟩
    · refine B_X10_troopAt_45 ?_
      try dsimp only
      refine hQ _ ?_
      rw [hf]
      congr 1
      omega
    · refine ⟨⟨Nat.zero_le _, Nat.zero_le _, Nat.le_of_ble_eq_true rfl⟩, sh361, ?_⟩
      refine C_isGone hG hR (by omega) (fun r hr => ?_)
      refine af_I0 rfl rfl (by decide) ?_
      try dsimp only
      refine B_X10_troopAt_20 ?_
      try dsimp only
      refine ⟨fun c20_1 => ?_, fun c20_1 => ?_⟩
      · refine B_X10_troopAt_37 ?_
        try dsimp only
        refine B_X10_troopAt_38 ?_
        try dsimp only
        refine ⟨by (refine ⟨?_, ?_⟩ <;> omega), ?_⟩
        refine ih (j + 1) _ (by omega) (by omega) ?_
        rw [show (j + 1).toNat = j.toNat + 1 by omega]
        unfold tA
        first | (rw [if_pos ⟨by omega, by omega⟩]; omega) | (rw [if_neg (by omega)]; exact hf)
      · refine ⟨⟨Nat.zero_le _, Nat.zero_le _, Nat.le_of_ble_eq_true rfl⟩, sh361, ?_⟩
        refine C_of hG hR (by omega) (by decide) (fun r2 hr2 => ?_)
        have hr2 : r2 = tf (I 362) j.toNat 1 := hr2
        refine af_I0 rfl rfl (by decide) ?_
        try dsimp only
        refine B_X10_troopAt_29 ?_
        try dsimp only
        refine ⟨fun c30_2 => ?_, fun c30_2 => ?_⟩
        · refine B_X10_troopAt_37 ?_
          try dsimp only
          refine B_X10_troopAt_38 ?_
          try dsimp only
          refine ⟨by (refine ⟨?_, ?_⟩ <;> omega), ?_⟩
          refine ih (j + 1) _ (by omega) (by omega) ?_
          rw [show (j + 1).toNat = j.toNat + 1 by omega]
          unfold tA
          first | (rw [if_pos ⟨by omega, by omega⟩]; omega) | (rw [if_neg (by omega)]; exact hf)
        · refine B_X10_troopAt_38 ?_
          try dsimp only
          refine ⟨by (refine ⟨?_, ?_⟩ <;> omega), ?_⟩
          refine ih (j + 1) _ (by omega) (by omega) ?_
          rw [show (j + 1).toNat = j.toNat + 1 by omega]
          unfold tA
          first | (rw [if_pos ⟨by omega, by omega⟩]; omega) | (rw [if_neg (by omega)]; exact hf)
theorem C_troopAt {G : amG} {I : Nat → Nat → Int} {R : Nat → Nat → Option Nat} {L : Nat → Nat → Int64} {x c t : Nat} {Q : amR → amH → Prop} (hG : amG0 G) (hR : RM R) {v : Int} (hn : wfN (I 362)) (hQ : ∀ r : Int, r = tAt (I 362) v → Q (Sum.inl (some (aI r))) (I, R, L, SH, x, 0, 0)) : CT G sX10_troopAt [aR (some 361), aI v] (I, R, L, SH, x, c, t) Q := by
  refine CT_of ok_X10_troopAt hG (Nat.le_of_ble_eq_true rfl) ?_
  show X G mX10_troopAt Q 0 _ [] (I, R, L, SH, x, 0, 0)
  refine B_X10_troopAt_0 ?_
  try dsimp only
  exact L_troopAt hG hR hn hQ 13 0 (-1) (by decide) ⟨by have := hn.2; omega, hn.1⟩ rfl
