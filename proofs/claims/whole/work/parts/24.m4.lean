/-! ===== the model: what is seen ===== -/
theorem L_seenFrom {G : amG} {I : Nat → Nat → Int} {R : Nat → Nat → Option Nat} {L : Nat → Nat → Int64} {x : Nat} {Q : amR → amH → Prop} (hG : amG0 G) (hR : RM R) (hh : wfH (I 362)) {v : Int} (hv : isC v) (hQ : ∀ r : Int, r = sfN (I 362) v 96 → Q (Sum.inl (some (aI r))) (I, R, L, SH, x, 0, 0)) :
    ∀ (n : Nat) (j s : Int), 0 ≤ j → 96 - j < n ∧ j ≤ 96 → s = sfN (I 362) v j.toNat → X G mX10_seenFrom Q 4 [some (aR (some 361)), some (aI v), some (aI s), some (aI j)] [] (I, R, L, SH, x, 0, 0) := by
  intro n
  induction n with
  | zero =>
    intros
    exfalso; omega
  | succ n ih =>
    intro j s h0 h1 hs
    have hb := sfN_b (I 362) v j.toNat
    refine B_X10_seenFrom_4 ?_
    try dsimp only
    refine ⟨fun c7_0 => ?_, fun c7_0 => ?_⟩
    · refine B_X10_seenFrom_33 ?_
      try dsimp only
      refine hQ _ ?_
      rw [hs]
      congr 1
      omega
    · refine ⟨⟨Nat.zero_le _, Nat.zero_le _, Nat.le_of_ble_eq_true rfl⟩, sh361, ?_⟩
      have hj : isC j := ⟨h0, by omega⟩
      refine C_isSeen hG hR hh hv hj (fun r hr => ?_)
      have he : (r ≠ 0 ∧ seeI (I 362) v j = 1) ∨ (r = 0 ∧ seeI (I 362) v j = 0) := hr.imp (fun q => ⟨by omega, seeI_one q.1⟩) (fun q => ⟨q.2, seeI_zero q.1⟩)
      refine af_I0 rfl rfl (by decide) ?_
      try dsimp only
      refine B_X10_seenFrom_17 ?_
      try dsimp only
      refine ⟨fun c17_1 => ?_, fun c17_1 => ?_⟩
      · refine B_X10_seenFrom_24 ?_
        try dsimp only
        refine B_X10_seenFrom_25 ?_
        try dsimp only
        refine ⟨by (refine ⟨?_, ?_⟩ <;> omega), ?_⟩
        refine ⟨by (refine ⟨?_, ?_⟩ <;> omega), ?_⟩
        refine ih (j + 1) _ (by omega) (by omega) ?_
        rw [show (j + 1).toNat = j.toNat + 1 by omega]
        unfold sfN
        rw [Int.toNat_of_nonneg h0, hs]
        rcases he with e | e <;> first | (exfalso; omega) | (rw [e.2]; done)
      · refine B_X10_seenFrom_25 ?_
        try dsimp only
        refine ⟨by (refine ⟨?_, ?_⟩ <;> omega), ?_⟩
        refine ⟨by (refine ⟨?_, ?_⟩ <;> omega), ?_⟩
        refine ih (j + 1) _ (by omega) (by omega) ?_
        rw [show (j + 1).toNat = j.toNat + 1 by omega]
        unfold sfN
        rw [Int.toNat_of_nonneg h0, hs]
        rcases he with e | e <;> first | (exfalso; omega) | (rw [e.2]; done)
theorem C_seenFrom {G : amG} {I : Nat → Nat → Int} {R : Nat → Nat → Option Nat} {L : Nat → Nat → Int64} {x c t : Nat} {Q : amR → amH → Prop} (hG : amG0 G) (hR : RM R) (hh : wfH (I 362)) {v : Int} (hv : isC v) (hQ : ∀ r : Int, r = sfN (I 362) v 96 → Q (Sum.inl (some (aI r))) (I, R, L, SH, x, 0, 0)) : CT G sX10_seenFrom [aR (some 361), aI v] (I, R, L, SH, x, c, t) Q := by
  refine CT_of ok_X10_seenFrom hG (Nat.le_of_ble_eq_true rfl) ?_
  show X G mX10_seenFrom Q 0 _ [] (I, R, L, SH, x, 0, 0)
  refine B_X10_seenFrom_0 ?_
  try dsimp only
  exact L_seenFrom hG hR hh hv hQ 97 0 0 (by decide) (by decide) rfl
