/-! ===== the model: what it tells ===== -/
def ceN (z : Row) (c w : Int) : Int := if w = 0 then z c.toNat else if w = 1 then tAt z c else if w = 2 then exN z c 4 else sfN z c 96
def trN (z : Row) (k : Nat) (w : Int) : Int := if w = 7 then ofN z k (z 195).toNat else if w = 8 then tf z k 7 else tf z k w.toNat
def cntZ (z : Row) (w : Int) : Int := if w = 0 then z 316 else if w = 1 then z 98 else if w = 2 then z 98 - inN z 2 (z 98).toNat else if w = 3 then inN z 1 (z 98).toNat else if w = 4 then z 317 else if w = 5 then z 195 else if w = 6 then z 318 else if w = 7 then z 319 else if w = 8 then z 320 else if w = 9 then stN z 0 (z 98).toNat else if w = 10 then stN z 1 (z 98).toNat else if w = 11 then z 96 else z 97
/-- the turns from a cell to troop k, for a post -/
def tmK (z : Row) (c : Int) (k : Nat) : Int := if seeI z c (tf z k 1) = 1 then 1 else if dS z c (tf z k 1) = -1 then 20 else (dS z c (tf z k 1) + 2) / 3
def tmN (z : Row) (c s : Int) : Nat → Int := sumN (fun k => if tf z k 4 ≠ 2 ∧ tf z k 0 = s then tmK z c k else 0)
theorem tmK_b {z : Row} {c : Int} {k : Nat} (hc : isC c) (hk : wfT1 z k) : 0 ≤ tmK z c k ∧ tmK z c k ≤ 33 := by
  have hx : isC (tf z k 1) := by unfold isC; have := hk.2.1; omega
  have := dS_b (z := z) hc hx
  unfold tmK
  repeat' split
  all_goals omega
theorem tmN_b {z : Row} {c s : Int} (hc : isC c) (ht : wfT z) (n : Nat) (hn : (n : Int) ≤ z 98) : 0 ≤ tmN z c s n ∧ tmN z c s n ≤ 33 * n := sumN_b n (fun k hk => by
  have := tmK_b hc (ht k (by omega))
  show 0 ≤ (if tf z k 4 ≠ 2 ∧ tf z k 0 = s then tmK z c k else 0) ∧ (if tf z k 4 ≠ 2 ∧ tf z k 0 = s then tmK z c k else 0) ≤ 33
  split <;> omega)
theorem C_isAtGoal {G : amG} {I : Nat → Nat → Int} {R : Nat → Nat → Option Nat} {L : Nat → Nat → Int64} {x c t : Nat} {Q : amR → amH → Prop} (hG : amG0 G) (hR : RM R) {k : Int} (hk : 0 ≤ k ∧ k < 12) (hQ : ∀ r : Int, ((tf (I 362) k.toNat 4 ≠ 2 ∧ tf (I 362) k.toNat 1 = tf (I 362) k.toNat 3) ∧ r = 1) ∨ (¬ (tf (I 362) k.toNat 4 ≠ 2 ∧ tf (I 362) k.toNat 1 = tf (I 362) k.toNat 3) ∧ r = 0) → Q (Sum.inl (some (aI r))) (I, R, L, SH, x, 0, 0)) : CT G sX10_isAtGoal [aR (some 361), aI k] (I, R, L, SH, x, c, t) Q := by
  refine CT_of ok_X10_isAtGoal hG (Nat.le_of_ble_eq_true rfl) ?_
  show X G mX10_isAtGoal Q 0 _ [] (I, R, L, SH, x, 0, 0)
  refine B_X10_isAtGoal_0 ?_
  try dsimp only
  refine ⟨⟨Nat.zero_le _, Nat.zero_le _, Nat.le_of_ble_eq_true rfl⟩, sh361, ?_⟩
  refine C_isGone hG hR hk (fun r hr => ?_)
  refine af_I0 rfl rfl (by decide) ?_
  try dsimp only
  refine B_X10_isAtGoal_5 ?_
  try dsimp only
  refine ⟨fun c5_1 => ?_, fun c5_1 => ?_⟩
  · refine B_X10_isAtGoal_27 ?_
    try dsimp only
    refine B_X10_isAtGoal_28 ?_
    try dsimp only
    refine ⟨by first | exact Or.inl rfl | exact Or.inr rfl | omega, ?_⟩
    exact hQ _ (by omega)
  · refine ⟨⟨Nat.zero_le _, Nat.zero_le _, Nat.le_of_ble_eq_true rfl⟩, sh361, ?_⟩
    refine C_of hG hR hk (by decide) (fun r2 hr2 => ?_)
    have hr2 : r2 = tf (I 362) k.toNat 1 := hr2
    refine af_I0 rfl rfl (by decide) ?_
    try dsimp only
    refine B_X10_isAtGoal_14 ?_
    try dsimp only
    refine ⟨⟨Nat.zero_le _, Nat.zero_le _, Nat.le_of_ble_eq_true rfl⟩, sh361, ?_⟩
    refine C_of hG hR hk (by decide) (fun r3 hr3 => ?_)
    have hr3 : r3 = tf (I 362) k.toNat 3 := hr3
    refine af_I0 rfl rfl (by decide) ?_
    try dsimp only
    refine B_X10_isAtGoal_20 ?_
    try dsimp only
    refine ⟨fun c20_3 => ?_, fun c20_3 => ?_⟩
    · refine B_X10_isAtGoal_27 ?_
      try dsimp only
      refine B_X10_isAtGoal_28 ?_
      try dsimp only
      refine ⟨by first | exact Or.inl rfl | exact Or.inr rfl | omega, ?_⟩
      exact hQ _ (by omega)
    · refine B_X10_isAtGoal_28 ?_
      try dsimp only
      refine ⟨by first | exact Or.inl rfl | exact Or.inr rfl | omega, ?_⟩
      exact hQ _ (by omega)
theorem C_cellNow {G : amG} {I : Nat → Nat → Int} {R : Nat → Nat → Option Nat} {L : Nat → Nat → Int64} {x c t : Nat} {Q : amR → amH → Prop} (hG : amG0 G) (hR : RM R) {v w : Int} (hh : wfH (I 362)) (hn : wfN (I 362)) (hv : isC v) (hQ : ∀ r : Int, r = ceN (I 362) v w → Q (Sum.inl (some (aI r))) (I, R, L, SH, x, 0, 0)) : CT G sX10_cellNow [aR (some 361), aI v, aI w] (I, R, L, SH, x, c, t) Q := by
  refine CT_of ok_X10_cellNow hG (Nat.le_of_ble_eq_true rfl) ?_
  show X G mX10_cellNow Q 0 _ [] (I, R, L, SH, x, 0, 0)
  have hv' : 0 ≤ v ∧ v < 96 := hv
  refine B_X10_cellNow_0 ?_
  try dsimp only
  refine ⟨fun c1_0 => ?_, fun c1_0 => ?_⟩
  · refine B_X10_cellNow_13 ?_
    try dsimp only
    refine ⟨fun c15_1 => ?_, fun c15_1 => ?_⟩
    · refine B_X10_cellNow_26 ?_
      try dsimp only
      refine ⟨fun c28_2 => ?_, fun c28_2 => ?_⟩
      · refine B_X10_cellNow_39 ?_
        try dsimp only
        refine ⟨⟨Nat.zero_le _, Nat.zero_le _, Nat.le_of_ble_eq_true rfl⟩, sh361, ?_⟩
        refine C_seenFrom hG hR hh hv (fun r hr => ?_)
        refine af_I0 rfl rfl (by decide) ?_
        try dsimp only
        refine B_X10_cellNow_44 ?_
        try dsimp only
        refine hQ _ ?_
        unfold ceN
        first
          | (rw [if_pos (by omega)]; done)
          | (rw [if_neg (by omega), if_pos (by omega)]; exact hr)
          | (rw [if_neg (by omega), if_neg (by omega), if_pos (by omega)]; exact hr)
          | (rw [if_neg (by omega), if_neg (by omega), if_neg (by omega)]; exact hr)
      · refine ⟨⟨Nat.zero_le _, Nat.zero_le _, Nat.le_of_ble_eq_true rfl⟩, sh361, ?_⟩
        refine C_steps hG hR hh hv (fun r hr => ?_)
        refine af_I0 rfl rfl (by decide) ?_
        try dsimp only
        refine B_X10_cellNow_36 ?_
        try dsimp only
        refine B_X10_cellNow_44 ?_
        try dsimp only
        refine hQ _ ?_
        unfold ceN
        first
          | (rw [if_pos (by omega)]; done)
          | (rw [if_neg (by omega), if_pos (by omega)]; exact hr)
          | (rw [if_neg (by omega), if_neg (by omega), if_pos (by omega)]; exact hr)
          | (rw [if_neg (by omega), if_neg (by omega), if_neg (by omega)]; exact hr)
    · refine ⟨⟨Nat.zero_le _, Nat.zero_le _, Nat.le_of_ble_eq_true rfl⟩, sh361, ?_⟩
      refine C_troopAt hG hR hn (fun r hr => ?_)
      refine af_I0 rfl rfl (by decide) ?_
      try dsimp only
      refine B_X10_cellNow_23 ?_
      try dsimp only
      refine B_X10_cellNow_44 ?_
      try dsimp only
      refine hQ _ ?_
      unfold ceN
      first
        | (rw [if_pos (by omega)]; done)
        | (rw [if_neg (by omega), if_pos (by omega)]; exact hr)
        | (rw [if_neg (by omega), if_neg (by omega), if_pos (by omega)]; exact hr)
        | (rw [if_neg (by omega), if_neg (by omega), if_neg (by omega)]; exact hr)
  · refine ⟨sh361, _, hR.z, ?_⟩
    refine ⟨_, sh362, ⟨by omega, by omega⟩, ?_⟩
    refine B_X10_cellNow_44 ?_
    try dsimp only
    refine hQ _ ?_
    unfold ceN
    first
      | (rw [if_pos (by omega)]; done)
      | (rw [if_neg (by omega), if_pos (by omega)]; exact hr)
      | (rw [if_neg (by omega), if_neg (by omega), if_pos (by omega)]; exact hr)
      | (rw [if_neg (by omega), if_neg (by omega), if_neg (by omega)]; exact hr)
theorem C_troopNow {G : amG} {I : Nat → Nat → Int} {R : Nat → Nat → Option Nat} {L : Nat → Nat → Int64} {x c t : Nat} {Q : amR → amH → Prop} (hG : amG0 G) (hR : RM R) {k w : Int} (hn : 0 ≤ I 362 195 ∧ I 362 195 ≤ 30) (hk : 0 ≤ k ∧ k < 12) (hw : 0 ≤ w ∧ w ≤ 8) (hQ : ∀ r : Int, r = trN (I 362) k.toNat w → Q (Sum.inl (some (aI r))) (I, R, L, SH, x, 0, 0)) : CT G sX10_troopNow [aR (some 361), aI k, aI w] (I, R, L, SH, x, c, t) Q := by
  refine CT_of ok_X10_troopNow hG (Nat.le_of_ble_eq_true rfl) ?_
  show X G mX10_troopNow Q 0 _ [] (I, R, L, SH, x, 0, 0)
  refine B_X10_troopNow_0 ?_
  try dsimp only
  refine ⟨fun c3_0 => ?_, fun c3_0 => ?_⟩
  · refine B_X10_troopNow_14 ?_
    try dsimp only
    refine ⟨fun c19_1 => ?_, fun c19_1 => ?_⟩
    · refine B_X10_troopNow_27 ?_
      try dsimp only
      refine B_X10_troopNow_28 ?_
      try dsimp only
      refine ⟨⟨Nat.zero_le _, Nat.zero_le _, Nat.le_of_ble_eq_true rfl⟩, sh361, ?_⟩
      refine C_of hG hR hk (by omega) (fun r hr => ?_)
      refine af_I0 rfl rfl (by decide) ?_
      try dsimp only
      refine B_X10_troopNow_31 ?_
      try dsimp only
      refine hQ _ ?_
      unfold trN
      first
        | (rw [if_pos (by omega), show ((k.toNat : Nat) : Int) = k by omega]; exact hr)
        | (rw [if_neg (by omega), if_pos (by omega)]; exact hr)
        | (rw [if_neg (by omega), if_neg (by omega)]; exact hr)
    · refine B_X10_troopNow_28 ?_
      try dsimp only
      refine ⟨⟨Nat.zero_le _, Nat.zero_le _, Nat.le_of_ble_eq_true rfl⟩, sh361, ?_⟩
      refine C_of hG hR hk (by omega) (fun r hr => ?_)
      refine af_I0 rfl rfl (by decide) ?_
      try dsimp only
      refine B_X10_troopNow_31 ?_
      try dsimp only
      refine hQ _ ?_
      unfold trN
      first
        | (rw [if_pos (by omega), show ((k.toNat : Nat) : Int) = k by omega]; exact hr)
        | (rw [if_neg (by omega), if_pos (by omega)]; exact hr)
        | (rw [if_neg (by omega), if_neg (by omega)]; exact hr)
  · refine ⟨⟨Nat.zero_le _, Nat.zero_le _, Nat.le_of_ble_eq_true rfl⟩, sh361, ?_⟩
    refine C_ordersFor hG hR hn (fun r hr => ?_)
    refine af_I0 rfl rfl (by decide) ?_
    try dsimp only
    refine B_X10_troopNow_11 ?_
    try dsimp only
    refine B_X10_troopNow_31 ?_
    try dsimp only
    refine hQ _ ?_
    unfold trN
    first
      | (rw [if_pos (by omega), show ((k.toNat : Nat) : Int) = k by omega]; exact hr)
      | (rw [if_neg (by omega), if_pos (by omega)]; exact hr)
      | (rw [if_neg (by omega), if_neg (by omega)]; exact hr)
theorem C_counted {G : amG} {I : Nat → Nat → Int} {R : Nat → Nat → Option Nat} {L : Nat → Nat → Int64} {x c t : Nat} {Q : amR → amH → Prop} (hG : amG0 G) (hR : RM R) {w : Int} (hn : wfN (I 362)) (ht : wfT (I 362)) (hw : 0 ≤ w ∧ w ≤ 13) (hQ : ∀ r : Int, r = (if w = 13 then I 361 2 else cntZ (I 362) w) → Q (Sum.inl (some (aI r))) (I, R, L, SH, x, 0, 0)) : CT G sX10_counted [aR (some 361), aI w] (I, R, L, SH, x, c, t) Q := by
  refine CT_of ok_X10_counted hG (Nat.le_of_ble_eq_true rfl) ?_
  show X G mX10_counted Q 0 _ [] (I, R, L, SH, x, 0, 0)
  have hn1 := hn.1
  have hn2 := hn.2
  refine B_X10_counted_0 ?_
  try dsimp only
  refine ⟨fun c1_0 => ?_, fun c1_0 => ?_, fun c1_0 => ?_, fun c1_0 => ?_, fun c1_0 => ?_, fun c1_0 => ?_, fun c1_0 => ?_, fun c1_0 => ?_, fun c1_0 => ?_, fun c1_0 => ?_, fun c1_0 => ?_, fun c1_0 => ?_, fun c1_0 => ?_, fun c1_0 => ?_, trivial⟩
  · refine B_X10_counted_168 ?_
    try dsimp only
    refine ⟨sh361, ?_⟩
    refine hQ _ ?_
    first
      | (rw [if_pos (by omega)]; done)
      | (rw [if_neg (show ¬ w = 13 by omega)]
         unfold cntZ
         first
           | (rw [if_pos (by omega)]; first | done | omega | exact hr | exact congrArg (I 362) (by omega))
           | (rw [if_neg (by omega), if_pos (by omega)]; first | done | omega | exact hr | exact congrArg (I 362) (by omega))
           | (rw [if_neg (by omega), if_neg (by omega), if_pos (by omega)]; first | done | omega | exact hr | exact congrArg (I 362) (by omega))
           | (rw [if_neg (by omega), if_neg (by omega), if_neg (by omega), if_pos (by omega)]; first | done | omega | exact hr | exact congrArg (I 362) (by omega))
           | (rw [if_neg (by omega), if_neg (by omega), if_neg (by omega), if_neg (by omega), if_pos (by omega)]; first | done | omega | exact hr | exact congrArg (I 362) (by omega))
           | (rw [if_neg (by omega), if_neg (by omega), if_neg (by omega), if_neg (by omega), if_neg (by omega), if_pos (by omega)]; first | done | omega | exact hr | exact congrArg (I 362) (by omega))
           | (rw [if_neg (by omega), if_neg (by omega), if_neg (by omega), if_neg (by omega), if_neg (by omega), if_neg (by omega), if_pos (by omega)]; first | done | omega | exact hr | exact congrArg (I 362) (by omega))
           | (rw [if_neg (by omega), if_neg (by omega), if_neg (by omega), if_neg (by omega), if_neg (by omega), if_neg (by omega), if_neg (by omega), if_pos (by omega)]; first | done | omega | exact hr | exact congrArg (I 362) (by omega))
           | (rw [if_neg (by omega), if_neg (by omega), if_neg (by omega), if_neg (by omega), if_neg (by omega), if_neg (by omega), if_neg (by omega), if_neg (by omega), if_pos (by omega)]; first | done | omega | exact hr | exact congrArg (I 362) (by omega))
           | (rw [if_neg (by omega), if_neg (by omega), if_neg (by omega), if_neg (by omega), if_neg (by omega), if_neg (by omega), if_neg (by omega), if_neg (by omega), if_neg (by omega), if_pos (by omega)]; first | done | omega | exact hr | exact congrArg (I 362) (by omega) | (rw [hr, show w - 9 = 0 by omega]))
           | (rw [if_neg (by omega), if_neg (by omega), if_neg (by omega), if_neg (by omega), if_neg (by omega), if_neg (by omega), if_neg (by omega), if_neg (by omega), if_neg (by omega), if_neg (by omega), if_pos (by omega)]; first | done | omega | exact hr | exact congrArg (I 362) (by omega) | (rw [hr, show w - 9 = 1 by omega]))
           | (rw [if_neg (by omega), if_neg (by omega), if_neg (by omega), if_neg (by omega), if_neg (by omega), if_neg (by omega), if_neg (by omega), if_neg (by omega), if_neg (by omega), if_neg (by omega), if_neg (by omega), if_pos (by omega)]; first | done | omega | exact hr | exact congrArg (I 362) (by omega))
           | (rw [if_neg (by omega), if_neg (by omega), if_neg (by omega), if_neg (by omega), if_neg (by omega), if_neg (by omega), if_neg (by omega), if_neg (by omega), if_neg (by omega), if_neg (by omega), if_neg (by omega), if_neg (by omega)]; first | done | omega | exact hr | exact congrArg (I 362) (by omega)))
  · refine B_X10_counted_68 ?_
    try dsimp only
    refine ⟨sh361, _, hR.z, ?_⟩
    refine ⟨_, sh362, ⟨by omega, by omega⟩, ?_⟩
    refine hQ _ ?_
    first
      | (rw [if_pos (by omega)]; done)
      | (rw [if_neg (show ¬ w = 13 by omega)]
         unfold cntZ
         first
           | (rw [if_pos (by omega)]; first | done | omega | exact hr | exact congrArg (I 362) (by omega))
           | (rw [if_neg (by omega), if_pos (by omega)]; first | done | omega | exact hr | exact congrArg (I 362) (by omega))
           | (rw [if_neg (by omega), if_neg (by omega), if_pos (by omega)]; first | done | omega | exact hr | exact congrArg (I 362) (by omega))
           | (rw [if_neg (by omega), if_neg (by omega), if_neg (by omega), if_pos (by omega)]; first | done | omega | exact hr | exact congrArg (I 362) (by omega))
           | (rw [if_neg (by omega), if_neg (by omega), if_neg (by omega), if_neg (by omega), if_pos (by omega)]; first | done | omega | exact hr | exact congrArg (I 362) (by omega))
           | (rw [if_neg (by omega), if_neg (by omega), if_neg (by omega), if_neg (by omega), if_neg (by omega), if_pos (by omega)]; first | done | omega | exact hr | exact congrArg (I 362) (by omega))
           | (rw [if_neg (by omega), if_neg (by omega), if_neg (by omega), if_neg (by omega), if_neg (by omega), if_neg (by omega), if_pos (by omega)]; first | done | omega | exact hr | exact congrArg (I 362) (by omega))
           | (rw [if_neg (by omega), if_neg (by omega), if_neg (by omega), if_neg (by omega), if_neg (by omega), if_neg (by omega), if_neg (by omega), if_pos (by omega)]; first | done | omega | exact hr | exact congrArg (I 362) (by omega))
           | (rw [if_neg (by omega), if_neg (by omega), if_neg (by omega), if_neg (by omega), if_neg (by omega), if_neg (by omega), if_neg (by omega), if_neg (by omega), if_pos (by omega)]; first | done | omega | exact hr | exact congrArg (I 362) (by omega))
           | (rw [if_neg (by omega), if_neg (by omega), if_neg (by omega), if_neg (by omega), if_neg (by omega), if_neg (by omega), if_neg (by omega), if_neg (by omega), if_neg (by omega), if_pos (by omega)]; first | done | omega | exact hr | exact congrArg (I 362) (by omega) | (rw [hr, show w - 9 = 0 by omega]))
           | (rw [if_neg (by omega), if_neg (by omega), if_neg (by omega), if_neg (by omega), if_neg (by omega), if_neg (by omega), if_neg (by omega), if_neg (by omega), if_neg (by omega), if_neg (by omega), if_pos (by omega)]; first | done | omega | exact hr | exact congrArg (I 362) (by omega) | (rw [hr, show w - 9 = 1 by omega]))
           | (rw [if_neg (by omega), if_neg (by omega), if_neg (by omega), if_neg (by omega), if_neg (by omega), if_neg (by omega), if_neg (by omega), if_neg (by omega), if_neg (by omega), if_neg (by omega), if_neg (by omega), if_pos (by omega)]; first | done | omega | exact hr | exact congrArg (I 362) (by omega))
           | (rw [if_neg (by omega), if_neg (by omega), if_neg (by omega), if_neg (by omega), if_neg (by omega), if_neg (by omega), if_neg (by omega), if_neg (by omega), if_neg (by omega), if_neg (by omega), if_neg (by omega), if_neg (by omega)]; first | done | omega | exact hr | exact congrArg (I 362) (by omega)))
  · refine B_X10_counted_77 ?_
    try dsimp only
    refine ⟨sh361, _, hR.z, ?_⟩
    refine ⟨_, sh362, ⟨by omega, by omega⟩, ?_⟩
    refine hQ _ ?_
    first
      | (rw [if_pos (by omega)]; done)
      | (rw [if_neg (show ¬ w = 13 by omega)]
         unfold cntZ
         first
           | (rw [if_pos (by omega)]; first | done | omega | exact hr | exact congrArg (I 362) (by omega))
           | (rw [if_neg (by omega), if_pos (by omega)]; first | done | omega | exact hr | exact congrArg (I 362) (by omega))
           | (rw [if_neg (by omega), if_neg (by omega), if_pos (by omega)]; first | done | omega | exact hr | exact congrArg (I 362) (by omega))
           | (rw [if_neg (by omega), if_neg (by omega), if_neg (by omega), if_pos (by omega)]; first | done | omega | exact hr | exact congrArg (I 362) (by omega))
           | (rw [if_neg (by omega), if_neg (by omega), if_neg (by omega), if_neg (by omega), if_pos (by omega)]; first | done | omega | exact hr | exact congrArg (I 362) (by omega))
           | (rw [if_neg (by omega), if_neg (by omega), if_neg (by omega), if_neg (by omega), if_neg (by omega), if_pos (by omega)]; first | done | omega | exact hr | exact congrArg (I 362) (by omega))
           | (rw [if_neg (by omega), if_neg (by omega), if_neg (by omega), if_neg (by omega), if_neg (by omega), if_neg (by omega), if_pos (by omega)]; first | done | omega | exact hr | exact congrArg (I 362) (by omega))
           | (rw [if_neg (by omega), if_neg (by omega), if_neg (by omega), if_neg (by omega), if_neg (by omega), if_neg (by omega), if_neg (by omega), if_pos (by omega)]; first | done | omega | exact hr | exact congrArg (I 362) (by omega))
           | (rw [if_neg (by omega), if_neg (by omega), if_neg (by omega), if_neg (by omega), if_neg (by omega), if_neg (by omega), if_neg (by omega), if_neg (by omega), if_pos (by omega)]; first | done | omega | exact hr | exact congrArg (I 362) (by omega))
           | (rw [if_neg (by omega), if_neg (by omega), if_neg (by omega), if_neg (by omega), if_neg (by omega), if_neg (by omega), if_neg (by omega), if_neg (by omega), if_neg (by omega), if_pos (by omega)]; first | done | omega | exact hr | exact congrArg (I 362) (by omega) | (rw [hr, show w - 9 = 0 by omega]))
           | (rw [if_neg (by omega), if_neg (by omega), if_neg (by omega), if_neg (by omega), if_neg (by omega), if_neg (by omega), if_neg (by omega), if_neg (by omega), if_neg (by omega), if_neg (by omega), if_pos (by omega)]; first | done | omega | exact hr | exact congrArg (I 362) (by omega) | (rw [hr, show w - 9 = 1 by omega]))
           | (rw [if_neg (by omega), if_neg (by omega), if_neg (by omega), if_neg (by omega), if_neg (by omega), if_neg (by omega), if_neg (by omega), if_neg (by omega), if_neg (by omega), if_neg (by omega), if_neg (by omega), if_pos (by omega)]; first | done | omega | exact hr | exact congrArg (I 362) (by omega))
           | (rw [if_neg (by omega), if_neg (by omega), if_neg (by omega), if_neg (by omega), if_neg (by omega), if_neg (by omega), if_neg (by omega), if_neg (by omega), if_neg (by omega), if_neg (by omega), if_neg (by omega), if_neg (by omega)]; first | done | omega | exact hr | exact congrArg (I 362) (by omega)))
  · refine B_X10_counted_85 ?_
    try dsimp only
    refine ⟨sh361, _, hR.z, ?_⟩
    refine ⟨_, sh362, ⟨by omega, by omega⟩, ?_⟩
    refine ⟨⟨Nat.zero_le _, Nat.zero_le _, Nat.le_of_ble_eq_true rfl⟩, sh361, ?_⟩
    refine C_inState hG hR hn (fun r hr => ?_)
    have hib := inN_b (I 362) 2 (I 362 98).toNat
    refine af_I0 rfl rfl (by decide) ?_
    try dsimp only
    refine B_X10_counted_97 ?_
    try dsimp only
    refine ⟨by (refine ⟨?_, ?_⟩ <;> omega), ?_⟩
    refine hQ _ ?_
    first
      | (rw [if_pos (by omega)]; done)
      | (rw [if_neg (show ¬ w = 13 by omega)]
         unfold cntZ
         first
           | (rw [if_pos (by omega)]; first | done | omega | exact hr | exact congrArg (I 362) (by omega))
           | (rw [if_neg (by omega), if_pos (by omega)]; first | done | omega | exact hr | exact congrArg (I 362) (by omega))
           | (rw [if_neg (by omega), if_neg (by omega), if_pos (by omega)]; first | done | omega | exact hr | exact congrArg (I 362) (by omega))
           | (rw [if_neg (by omega), if_neg (by omega), if_neg (by omega), if_pos (by omega)]; first | done | omega | exact hr | exact congrArg (I 362) (by omega))
           | (rw [if_neg (by omega), if_neg (by omega), if_neg (by omega), if_neg (by omega), if_pos (by omega)]; first | done | omega | exact hr | exact congrArg (I 362) (by omega))
           | (rw [if_neg (by omega), if_neg (by omega), if_neg (by omega), if_neg (by omega), if_neg (by omega), if_pos (by omega)]; first | done | omega | exact hr | exact congrArg (I 362) (by omega))
           | (rw [if_neg (by omega), if_neg (by omega), if_neg (by omega), if_neg (by omega), if_neg (by omega), if_neg (by omega), if_pos (by omega)]; first | done | omega | exact hr | exact congrArg (I 362) (by omega))
           | (rw [if_neg (by omega), if_neg (by omega), if_neg (by omega), if_neg (by omega), if_neg (by omega), if_neg (by omega), if_neg (by omega), if_pos (by omega)]; first | done | omega | exact hr | exact congrArg (I 362) (by omega))
           | (rw [if_neg (by omega), if_neg (by omega), if_neg (by omega), if_neg (by omega), if_neg (by omega), if_neg (by omega), if_neg (by omega), if_neg (by omega), if_pos (by omega)]; first | done | omega | exact hr | exact congrArg (I 362) (by omega))
           | (rw [if_neg (by omega), if_neg (by omega), if_neg (by omega), if_neg (by omega), if_neg (by omega), if_neg (by omega), if_neg (by omega), if_neg (by omega), if_neg (by omega), if_pos (by omega)]; first | done | omega | exact hr | exact congrArg (I 362) (by omega) | (rw [hr, show w - 9 = 0 by omega]))
           | (rw [if_neg (by omega), if_neg (by omega), if_neg (by omega), if_neg (by omega), if_neg (by omega), if_neg (by omega), if_neg (by omega), if_neg (by omega), if_neg (by omega), if_neg (by omega), if_pos (by omega)]; first | done | omega | exact hr | exact congrArg (I 362) (by omega) | (rw [hr, show w - 9 = 1 by omega]))
           | (rw [if_neg (by omega), if_neg (by omega), if_neg (by omega), if_neg (by omega), if_neg (by omega), if_neg (by omega), if_neg (by omega), if_neg (by omega), if_neg (by omega), if_neg (by omega), if_neg (by omega), if_pos (by omega)]; first | done | omega | exact hr | exact congrArg (I 362) (by omega))
           | (rw [if_neg (by omega), if_neg (by omega), if_neg (by omega), if_neg (by omega), if_neg (by omega), if_neg (by omega), if_neg (by omega), if_neg (by omega), if_neg (by omega), if_neg (by omega), if_neg (by omega), if_neg (by omega)]; first | done | omega | exact hr | exact congrArg (I 362) (by omega)))
  · refine B_X10_counted_99 ?_
    try dsimp only
    refine ⟨⟨Nat.zero_le _, Nat.zero_le _, Nat.le_of_ble_eq_true rfl⟩, sh361, ?_⟩
    refine C_inState hG hR hn (fun r hr => ?_)
    refine af_I0 rfl rfl (by decide) ?_
    try dsimp only
    refine B_X10_counted_104 ?_
    try dsimp only
    refine hQ _ ?_
    first
      | (rw [if_pos (by omega)]; done)
      | (rw [if_neg (show ¬ w = 13 by omega)]
         unfold cntZ
         first
           | (rw [if_pos (by omega)]; first | done | omega | exact hr | exact congrArg (I 362) (by omega))
           | (rw [if_neg (by omega), if_pos (by omega)]; first | done | omega | exact hr | exact congrArg (I 362) (by omega))
           | (rw [if_neg (by omega), if_neg (by omega), if_pos (by omega)]; first | done | omega | exact hr | exact congrArg (I 362) (by omega))
           | (rw [if_neg (by omega), if_neg (by omega), if_neg (by omega), if_pos (by omega)]; first | done | omega | exact hr | exact congrArg (I 362) (by omega))
           | (rw [if_neg (by omega), if_neg (by omega), if_neg (by omega), if_neg (by omega), if_pos (by omega)]; first | done | omega | exact hr | exact congrArg (I 362) (by omega))
           | (rw [if_neg (by omega), if_neg (by omega), if_neg (by omega), if_neg (by omega), if_neg (by omega), if_pos (by omega)]; first | done | omega | exact hr | exact congrArg (I 362) (by omega))
           | (rw [if_neg (by omega), if_neg (by omega), if_neg (by omega), if_neg (by omega), if_neg (by omega), if_neg (by omega), if_pos (by omega)]; first | done | omega | exact hr | exact congrArg (I 362) (by omega))
           | (rw [if_neg (by omega), if_neg (by omega), if_neg (by omega), if_neg (by omega), if_neg (by omega), if_neg (by omega), if_neg (by omega), if_pos (by omega)]; first | done | omega | exact hr | exact congrArg (I 362) (by omega))
           | (rw [if_neg (by omega), if_neg (by omega), if_neg (by omega), if_neg (by omega), if_neg (by omega), if_neg (by omega), if_neg (by omega), if_neg (by omega), if_pos (by omega)]; first | done | omega | exact hr | exact congrArg (I 362) (by omega))
           | (rw [if_neg (by omega), if_neg (by omega), if_neg (by omega), if_neg (by omega), if_neg (by omega), if_neg (by omega), if_neg (by omega), if_neg (by omega), if_neg (by omega), if_pos (by omega)]; first | done | omega | exact hr | exact congrArg (I 362) (by omega) | (rw [hr, show w - 9 = 0 by omega]))
           | (rw [if_neg (by omega), if_neg (by omega), if_neg (by omega), if_neg (by omega), if_neg (by omega), if_neg (by omega), if_neg (by omega), if_neg (by omega), if_neg (by omega), if_neg (by omega), if_pos (by omega)]; first | done | omega | exact hr | exact congrArg (I 362) (by omega) | (rw [hr, show w - 9 = 1 by omega]))
           | (rw [if_neg (by omega), if_neg (by omega), if_neg (by omega), if_neg (by omega), if_neg (by omega), if_neg (by omega), if_neg (by omega), if_neg (by omega), if_neg (by omega), if_neg (by omega), if_neg (by omega), if_pos (by omega)]; first | done | omega | exact hr | exact congrArg (I 362) (by omega))
           | (rw [if_neg (by omega), if_neg (by omega), if_neg (by omega), if_neg (by omega), if_neg (by omega), if_neg (by omega), if_neg (by omega), if_neg (by omega), if_neg (by omega), if_neg (by omega), if_neg (by omega), if_neg (by omega)]; first | done | omega | exact hr | exact congrArg (I 362) (by omega)))
  · refine B_X10_counted_105 ?_
    try dsimp only
    refine ⟨sh361, _, hR.z, ?_⟩
    refine ⟨_, sh362, ⟨by omega, by omega⟩, ?_⟩
    refine hQ _ ?_
    first
      | (rw [if_pos (by omega)]; done)
      | (rw [if_neg (show ¬ w = 13 by omega)]
         unfold cntZ
         first
           | (rw [if_pos (by omega)]; first | done | omega | exact hr | exact congrArg (I 362) (by omega))
           | (rw [if_neg (by omega), if_pos (by omega)]; first | done | omega | exact hr | exact congrArg (I 362) (by omega))
           | (rw [if_neg (by omega), if_neg (by omega), if_pos (by omega)]; first | done | omega | exact hr | exact congrArg (I 362) (by omega))
           | (rw [if_neg (by omega), if_neg (by omega), if_neg (by omega), if_pos (by omega)]; first | done | omega | exact hr | exact congrArg (I 362) (by omega))
           | (rw [if_neg (by omega), if_neg (by omega), if_neg (by omega), if_neg (by omega), if_pos (by omega)]; first | done | omega | exact hr | exact congrArg (I 362) (by omega))
           | (rw [if_neg (by omega), if_neg (by omega), if_neg (by omega), if_neg (by omega), if_neg (by omega), if_pos (by omega)]; first | done | omega | exact hr | exact congrArg (I 362) (by omega))
           | (rw [if_neg (by omega), if_neg (by omega), if_neg (by omega), if_neg (by omega), if_neg (by omega), if_neg (by omega), if_pos (by omega)]; first | done | omega | exact hr | exact congrArg (I 362) (by omega))
           | (rw [if_neg (by omega), if_neg (by omega), if_neg (by omega), if_neg (by omega), if_neg (by omega), if_neg (by omega), if_neg (by omega), if_pos (by omega)]; first | done | omega | exact hr | exact congrArg (I 362) (by omega))
           | (rw [if_neg (by omega), if_neg (by omega), if_neg (by omega), if_neg (by omega), if_neg (by omega), if_neg (by omega), if_neg (by omega), if_neg (by omega), if_pos (by omega)]; first | done | omega | exact hr | exact congrArg (I 362) (by omega))
           | (rw [if_neg (by omega), if_neg (by omega), if_neg (by omega), if_neg (by omega), if_neg (by omega), if_neg (by omega), if_neg (by omega), if_neg (by omega), if_neg (by omega), if_pos (by omega)]; first | done | omega | exact hr | exact congrArg (I 362) (by omega) | (rw [hr, show w - 9 = 0 by omega]))
           | (rw [if_neg (by omega), if_neg (by omega), if_neg (by omega), if_neg (by omega), if_neg (by omega), if_neg (by omega), if_neg (by omega), if_neg (by omega), if_neg (by omega), if_neg (by omega), if_pos (by omega)]; first | done | omega | exact hr | exact congrArg (I 362) (by omega) | (rw [hr, show w - 9 = 1 by omega]))
           | (rw [if_neg (by omega), if_neg (by omega), if_neg (by omega), if_neg (by omega), if_neg (by omega), if_neg (by omega), if_neg (by omega), if_neg (by omega), if_neg (by omega), if_neg (by omega), if_neg (by omega), if_pos (by omega)]; first | done | omega | exact hr | exact congrArg (I 362) (by omega))
           | (rw [if_neg (by omega), if_neg (by omega), if_neg (by omega), if_neg (by omega), if_neg (by omega), if_neg (by omega), if_neg (by omega), if_neg (by omega), if_neg (by omega), if_neg (by omega), if_neg (by omega), if_neg (by omega)]; first | done | omega | exact hr | exact congrArg (I 362) (by omega)))
  · refine B_X10_counted_114 ?_
    try dsimp only
    refine ⟨sh361, _, hR.z, ?_⟩
    refine ⟨_, sh362, ⟨by omega, by omega⟩, ?_⟩
    refine hQ _ ?_
    first
      | (rw [if_pos (by omega)]; done)
      | (rw [if_neg (show ¬ w = 13 by omega)]
         unfold cntZ
         first
           | (rw [if_pos (by omega)]; first | done | omega | exact hr | exact congrArg (I 362) (by omega))
           | (rw [if_neg (by omega), if_pos (by omega)]; first | done | omega | exact hr | exact congrArg (I 362) (by omega))
           | (rw [if_neg (by omega), if_neg (by omega), if_pos (by omega)]; first | done | omega | exact hr | exact congrArg (I 362) (by omega))
           | (rw [if_neg (by omega), if_neg (by omega), if_neg (by omega), if_pos (by omega)]; first | done | omega | exact hr | exact congrArg (I 362) (by omega))
           | (rw [if_neg (by omega), if_neg (by omega), if_neg (by omega), if_neg (by omega), if_pos (by omega)]; first | done | omega | exact hr | exact congrArg (I 362) (by omega))
           | (rw [if_neg (by omega), if_neg (by omega), if_neg (by omega), if_neg (by omega), if_neg (by omega), if_pos (by omega)]; first | done | omega | exact hr | exact congrArg (I 362) (by omega))
           | (rw [if_neg (by omega), if_neg (by omega), if_neg (by omega), if_neg (by omega), if_neg (by omega), if_neg (by omega), if_pos (by omega)]; first | done | omega | exact hr | exact congrArg (I 362) (by omega))
           | (rw [if_neg (by omega), if_neg (by omega), if_neg (by omega), if_neg (by omega), if_neg (by omega), if_neg (by omega), if_neg (by omega), if_pos (by omega)]; first | done | omega | exact hr | exact congrArg (I 362) (by omega))
           | (rw [if_neg (by omega), if_neg (by omega), if_neg (by omega), if_neg (by omega), if_neg (by omega), if_neg (by omega), if_neg (by omega), if_neg (by omega), if_pos (by omega)]; first | done | omega | exact hr | exact congrArg (I 362) (by omega))
           | (rw [if_neg (by omega), if_neg (by omega), if_neg (by omega), if_neg (by omega), if_neg (by omega), if_neg (by omega), if_neg (by omega), if_neg (by omega), if_neg (by omega), if_pos (by omega)]; first | done | omega | exact hr | exact congrArg (I 362) (by omega) | (rw [hr, show w - 9 = 0 by omega]))
           | (rw [if_neg (by omega), if_neg (by omega), if_neg (by omega), if_neg (by omega), if_neg (by omega), if_neg (by omega), if_neg (by omega), if_neg (by omega), if_neg (by omega), if_neg (by omega), if_pos (by omega)]; first | done | omega | exact hr | exact congrArg (I 362) (by omega) | (rw [hr, show w - 9 = 1 by omega]))
           | (rw [if_neg (by omega), if_neg (by omega), if_neg (by omega), if_neg (by omega), if_neg (by omega), if_neg (by omega), if_neg (by omega), if_neg (by omega), if_neg (by omega), if_neg (by omega), if_neg (by omega), if_pos (by omega)]; first | done | omega | exact hr | exact congrArg (I 362) (by omega))
           | (rw [if_neg (by omega), if_neg (by omega), if_neg (by omega), if_neg (by omega), if_neg (by omega), if_neg (by omega), if_neg (by omega), if_neg (by omega), if_neg (by omega), if_neg (by omega), if_neg (by omega), if_neg (by omega)]; first | done | omega | exact hr | exact congrArg (I 362) (by omega)))
  · refine B_X10_counted_123 ?_
    try dsimp only
    refine ⟨sh361, _, hR.z, ?_⟩
    refine ⟨_, sh362, ⟨by omega, by omega⟩, ?_⟩
    refine hQ _ ?_
    first
      | (rw [if_pos (by omega)]; done)
      | (rw [if_neg (show ¬ w = 13 by omega)]
         unfold cntZ
         first
           | (rw [if_pos (by omega)]; first | done | omega | exact hr | exact congrArg (I 362) (by omega))
           | (rw [if_neg (by omega), if_pos (by omega)]; first | done | omega | exact hr | exact congrArg (I 362) (by omega))
           | (rw [if_neg (by omega), if_neg (by omega), if_pos (by omega)]; first | done | omega | exact hr | exact congrArg (I 362) (by omega))
           | (rw [if_neg (by omega), if_neg (by omega), if_neg (by omega), if_pos (by omega)]; first | done | omega | exact hr | exact congrArg (I 362) (by omega))
           | (rw [if_neg (by omega), if_neg (by omega), if_neg (by omega), if_neg (by omega), if_pos (by omega)]; first | done | omega | exact hr | exact congrArg (I 362) (by omega))
           | (rw [if_neg (by omega), if_neg (by omega), if_neg (by omega), if_neg (by omega), if_neg (by omega), if_pos (by omega)]; first | done | omega | exact hr | exact congrArg (I 362) (by omega))
           | (rw [if_neg (by omega), if_neg (by omega), if_neg (by omega), if_neg (by omega), if_neg (by omega), if_neg (by omega), if_pos (by omega)]; first | done | omega | exact hr | exact congrArg (I 362) (by omega))
           | (rw [if_neg (by omega), if_neg (by omega), if_neg (by omega), if_neg (by omega), if_neg (by omega), if_neg (by omega), if_neg (by omega), if_pos (by omega)]; first | done | omega | exact hr | exact congrArg (I 362) (by omega))
           | (rw [if_neg (by omega), if_neg (by omega), if_neg (by omega), if_neg (by omega), if_neg (by omega), if_neg (by omega), if_neg (by omega), if_neg (by omega), if_pos (by omega)]; first | done | omega | exact hr | exact congrArg (I 362) (by omega))
           | (rw [if_neg (by omega), if_neg (by omega), if_neg (by omega), if_neg (by omega), if_neg (by omega), if_neg (by omega), if_neg (by omega), if_neg (by omega), if_neg (by omega), if_pos (by omega)]; first | done | omega | exact hr | exact congrArg (I 362) (by omega) | (rw [hr, show w - 9 = 0 by omega]))
           | (rw [if_neg (by omega), if_neg (by omega), if_neg (by omega), if_neg (by omega), if_neg (by omega), if_neg (by omega), if_neg (by omega), if_neg (by omega), if_neg (by omega), if_neg (by omega), if_pos (by omega)]; first | done | omega | exact hr | exact congrArg (I 362) (by omega) | (rw [hr, show w - 9 = 1 by omega]))
           | (rw [if_neg (by omega), if_neg (by omega), if_neg (by omega), if_neg (by omega), if_neg (by omega), if_neg (by omega), if_neg (by omega), if_neg (by omega), if_neg (by omega), if_neg (by omega), if_neg (by omega), if_pos (by omega)]; first | done | omega | exact hr | exact congrArg (I 362) (by omega))
           | (rw [if_neg (by omega), if_neg (by omega), if_neg (by omega), if_neg (by omega), if_neg (by omega), if_neg (by omega), if_neg (by omega), if_neg (by omega), if_neg (by omega), if_neg (by omega), if_neg (by omega), if_neg (by omega)]; first | done | omega | exact hr | exact congrArg (I 362) (by omega)))
  · refine B_X10_counted_132 ?_
    try dsimp only
    refine ⟨sh361, _, hR.z, ?_⟩
    refine ⟨by (refine ⟨?_, ?_⟩ <;> omega), ?_⟩
    refine ⟨by (refine ⟨?_, ?_⟩ <;> omega), ?_⟩
    refine ⟨_, sh362, ⟨by omega, by omega⟩, ?_⟩
    refine hQ _ ?_
    first
      | (rw [if_pos (by omega)]; done)
      | (rw [if_neg (show ¬ w = 13 by omega)]
         unfold cntZ
         first
           | (rw [if_pos (by omega)]; first | done | omega | exact hr | exact congrArg (I 362) (by omega))
           | (rw [if_neg (by omega), if_pos (by omega)]; first | done | omega | exact hr | exact congrArg (I 362) (by omega))
           | (rw [if_neg (by omega), if_neg (by omega), if_pos (by omega)]; first | done | omega | exact hr | exact congrArg (I 362) (by omega))
           | (rw [if_neg (by omega), if_neg (by omega), if_neg (by omega), if_pos (by omega)]; first | done | omega | exact hr | exact congrArg (I 362) (by omega))
           | (rw [if_neg (by omega), if_neg (by omega), if_neg (by omega), if_neg (by omega), if_pos (by omega)]; first | done | omega | exact hr | exact congrArg (I 362) (by omega))
           | (rw [if_neg (by omega), if_neg (by omega), if_neg (by omega), if_neg (by omega), if_neg (by omega), if_pos (by omega)]; first | done | omega | exact hr | exact congrArg (I 362) (by omega))
           | (rw [if_neg (by omega), if_neg (by omega), if_neg (by omega), if_neg (by omega), if_neg (by omega), if_neg (by omega), if_pos (by omega)]; first | done | omega | exact hr | exact congrArg (I 362) (by omega))
           | (rw [if_neg (by omega), if_neg (by omega), if_neg (by omega), if_neg (by omega), if_neg (by omega), if_neg (by omega), if_neg (by omega), if_pos (by omega)]; first | done | omega | exact hr | exact congrArg (I 362) (by omega))
           | (rw [if_neg (by omega), if_neg (by omega), if_neg (by omega), if_neg (by omega), if_neg (by omega), if_neg (by omega), if_neg (by omega), if_neg (by omega), if_pos (by omega)]; first | done | omega | exact hr | exact congrArg (I 362) (by omega))
           | (rw [if_neg (by omega), if_neg (by omega), if_neg (by omega), if_neg (by omega), if_neg (by omega), if_neg (by omega), if_neg (by omega), if_neg (by omega), if_neg (by omega), if_pos (by omega)]; first | done | omega | exact hr | exact congrArg (I 362) (by omega) | (rw [hr, show w - 9 = 0 by omega]))
           | (rw [if_neg (by omega), if_neg (by omega), if_neg (by omega), if_neg (by omega), if_neg (by omega), if_neg (by omega), if_neg (by omega), if_neg (by omega), if_neg (by omega), if_neg (by omega), if_pos (by omega)]; first | done | omega | exact hr | exact congrArg (I 362) (by omega) | (rw [hr, show w - 9 = 1 by omega]))
           | (rw [if_neg (by omega), if_neg (by omega), if_neg (by omega), if_neg (by omega), if_neg (by omega), if_neg (by omega), if_neg (by omega), if_neg (by omega), if_neg (by omega), if_neg (by omega), if_neg (by omega), if_pos (by omega)]; first | done | omega | exact hr | exact congrArg (I 362) (by omega))
           | (rw [if_neg (by omega), if_neg (by omega), if_neg (by omega), if_neg (by omega), if_neg (by omega), if_neg (by omega), if_neg (by omega), if_neg (by omega), if_neg (by omega), if_neg (by omega), if_neg (by omega), if_neg (by omega)]; first | done | omega | exact hr | exact congrArg (I 362) (by omega)))
  · refine B_X10_counted_132 ?_
    try dsimp only
    refine ⟨sh361, _, hR.z, ?_⟩
    refine ⟨by (refine ⟨?_, ?_⟩ <;> omega), ?_⟩
    refine ⟨by (refine ⟨?_, ?_⟩ <;> omega), ?_⟩
    refine ⟨_, sh362, ⟨by omega, by omega⟩, ?_⟩
    refine hQ _ ?_
    first
      | (rw [if_pos (by omega)]; done)
      | (rw [if_neg (show ¬ w = 13 by omega)]
         unfold cntZ
         first
           | (rw [if_pos (by omega)]; first | done | omega | exact hr | exact congrArg (I 362) (by omega))
           | (rw [if_neg (by omega), if_pos (by omega)]; first | done | omega | exact hr | exact congrArg (I 362) (by omega))
           | (rw [if_neg (by omega), if_neg (by omega), if_pos (by omega)]; first | done | omega | exact hr | exact congrArg (I 362) (by omega))
           | (rw [if_neg (by omega), if_neg (by omega), if_neg (by omega), if_pos (by omega)]; first | done | omega | exact hr | exact congrArg (I 362) (by omega))
           | (rw [if_neg (by omega), if_neg (by omega), if_neg (by omega), if_neg (by omega), if_pos (by omega)]; first | done | omega | exact hr | exact congrArg (I 362) (by omega))
           | (rw [if_neg (by omega), if_neg (by omega), if_neg (by omega), if_neg (by omega), if_neg (by omega), if_pos (by omega)]; first | done | omega | exact hr | exact congrArg (I 362) (by omega))
           | (rw [if_neg (by omega), if_neg (by omega), if_neg (by omega), if_neg (by omega), if_neg (by omega), if_neg (by omega), if_pos (by omega)]; first | done | omega | exact hr | exact congrArg (I 362) (by omega))
           | (rw [if_neg (by omega), if_neg (by omega), if_neg (by omega), if_neg (by omega), if_neg (by omega), if_neg (by omega), if_neg (by omega), if_pos (by omega)]; first | done | omega | exact hr | exact congrArg (I 362) (by omega))
           | (rw [if_neg (by omega), if_neg (by omega), if_neg (by omega), if_neg (by omega), if_neg (by omega), if_neg (by omega), if_neg (by omega), if_neg (by omega), if_pos (by omega)]; first | done | omega | exact hr | exact congrArg (I 362) (by omega))
           | (rw [if_neg (by omega), if_neg (by omega), if_neg (by omega), if_neg (by omega), if_neg (by omega), if_neg (by omega), if_neg (by omega), if_neg (by omega), if_neg (by omega), if_pos (by omega)]; first | done | omega | exact hr | exact congrArg (I 362) (by omega) | (rw [hr, show w - 9 = 0 by omega]))
           | (rw [if_neg (by omega), if_neg (by omega), if_neg (by omega), if_neg (by omega), if_neg (by omega), if_neg (by omega), if_neg (by omega), if_neg (by omega), if_neg (by omega), if_neg (by omega), if_pos (by omega)]; first | done | omega | exact hr | exact congrArg (I 362) (by omega) | (rw [hr, show w - 9 = 1 by omega]))
           | (rw [if_neg (by omega), if_neg (by omega), if_neg (by omega), if_neg (by omega), if_neg (by omega), if_neg (by omega), if_neg (by omega), if_neg (by omega), if_neg (by omega), if_neg (by omega), if_neg (by omega), if_pos (by omega)]; first | done | omega | exact hr | exact congrArg (I 362) (by omega))
           | (rw [if_neg (by omega), if_neg (by omega), if_neg (by omega), if_neg (by omega), if_neg (by omega), if_neg (by omega), if_neg (by omega), if_neg (by omega), if_neg (by omega), if_neg (by omega), if_neg (by omega), if_neg (by omega)]; first | done | omega | exact hr | exact congrArg (I 362) (by omega)))
  · refine B_X10_counted_146 ?_
    try dsimp only
    refine ⟨by (refine ⟨?_, ?_⟩ <;> omega), ?_⟩
    refine ⟨⟨Nat.zero_le _, Nat.zero_le _, Nat.le_of_ble_eq_true rfl⟩, sh361, ?_⟩
    refine C_strengthOf hG hR hn ht (fun r hr => ?_)
    refine af_I0 rfl rfl (by decide) ?_
    try dsimp only
    refine B_X10_counted_154 ?_
    try dsimp only
    refine hQ _ ?_
    first
      | (rw [if_pos (by omega)]; done)
      | (rw [if_neg (show ¬ w = 13 by omega)]
         unfold cntZ
         first
           | (rw [if_pos (by omega)]; first | done | omega | exact hr | exact congrArg (I 362) (by omega))
           | (rw [if_neg (by omega), if_pos (by omega)]; first | done | omega | exact hr | exact congrArg (I 362) (by omega))
           | (rw [if_neg (by omega), if_neg (by omega), if_pos (by omega)]; first | done | omega | exact hr | exact congrArg (I 362) (by omega))
           | (rw [if_neg (by omega), if_neg (by omega), if_neg (by omega), if_pos (by omega)]; first | done | omega | exact hr | exact congrArg (I 362) (by omega))
           | (rw [if_neg (by omega), if_neg (by omega), if_neg (by omega), if_neg (by omega), if_pos (by omega)]; first | done | omega | exact hr | exact congrArg (I 362) (by omega))
           | (rw [if_neg (by omega), if_neg (by omega), if_neg (by omega), if_neg (by omega), if_neg (by omega), if_pos (by omega)]; first | done | omega | exact hr | exact congrArg (I 362) (by omega))
           | (rw [if_neg (by omega), if_neg (by omega), if_neg (by omega), if_neg (by omega), if_neg (by omega), if_neg (by omega), if_pos (by omega)]; first | done | omega | exact hr | exact congrArg (I 362) (by omega))
           | (rw [if_neg (by omega), if_neg (by omega), if_neg (by omega), if_neg (by omega), if_neg (by omega), if_neg (by omega), if_neg (by omega), if_pos (by omega)]; first | done | omega | exact hr | exact congrArg (I 362) (by omega))
           | (rw [if_neg (by omega), if_neg (by omega), if_neg (by omega), if_neg (by omega), if_neg (by omega), if_neg (by omega), if_neg (by omega), if_neg (by omega), if_pos (by omega)]; first | done | omega | exact hr | exact congrArg (I 362) (by omega))
           | (rw [if_neg (by omega), if_neg (by omega), if_neg (by omega), if_neg (by omega), if_neg (by omega), if_neg (by omega), if_neg (by omega), if_neg (by omega), if_neg (by omega), if_pos (by omega)]; first | done | omega | exact hr | exact congrArg (I 362) (by omega) | (rw [hr, show w - 9 = 0 by omega]))
           | (rw [if_neg (by omega), if_neg (by omega), if_neg (by omega), if_neg (by omega), if_neg (by omega), if_neg (by omega), if_neg (by omega), if_neg (by omega), if_neg (by omega), if_neg (by omega), if_pos (by omega)]; first | done | omega | exact hr | exact congrArg (I 362) (by omega) | (rw [hr, show w - 9 = 1 by omega]))
           | (rw [if_neg (by omega), if_neg (by omega), if_neg (by omega), if_neg (by omega), if_neg (by omega), if_neg (by omega), if_neg (by omega), if_neg (by omega), if_neg (by omega), if_neg (by omega), if_neg (by omega), if_pos (by omega)]; first | done | omega | exact hr | exact congrArg (I 362) (by omega))
           | (rw [if_neg (by omega), if_neg (by omega), if_neg (by omega), if_neg (by omega), if_neg (by omega), if_neg (by omega), if_neg (by omega), if_neg (by omega), if_neg (by omega), if_neg (by omega), if_neg (by omega), if_neg (by omega)]; first | done | omega | exact hr | exact congrArg (I 362) (by omega)))
  · refine B_X10_counted_146 ?_
    try dsimp only
    refine ⟨by (refine ⟨?_, ?_⟩ <;> omega), ?_⟩
    refine ⟨⟨Nat.zero_le _, Nat.zero_le _, Nat.le_of_ble_eq_true rfl⟩, sh361, ?_⟩
    refine C_strengthOf hG hR hn ht (fun r hr => ?_)
    refine af_I0 rfl rfl (by decide) ?_
    try dsimp only
    refine B_X10_counted_154 ?_
    try dsimp only
    refine hQ _ ?_
    first
      | (rw [if_pos (by omega)]; done)
      | (rw [if_neg (show ¬ w = 13 by omega)]
         unfold cntZ
         first
           | (rw [if_pos (by omega)]; first | done | omega | exact hr | exact congrArg (I 362) (by omega))
           | (rw [if_neg (by omega), if_pos (by omega)]; first | done | omega | exact hr | exact congrArg (I 362) (by omega))
           | (rw [if_neg (by omega), if_neg (by omega), if_pos (by omega)]; first | done | omega | exact hr | exact congrArg (I 362) (by omega))
           | (rw [if_neg (by omega), if_neg (by omega), if_neg (by omega), if_pos (by omega)]; first | done | omega | exact hr | exact congrArg (I 362) (by omega))
           | (rw [if_neg (by omega), if_neg (by omega), if_neg (by omega), if_neg (by omega), if_pos (by omega)]; first | done | omega | exact hr | exact congrArg (I 362) (by omega))
           | (rw [if_neg (by omega), if_neg (by omega), if_neg (by omega), if_neg (by omega), if_neg (by omega), if_pos (by omega)]; first | done | omega | exact hr | exact congrArg (I 362) (by omega))
           | (rw [if_neg (by omega), if_neg (by omega), if_neg (by omega), if_neg (by omega), if_neg (by omega), if_neg (by omega), if_pos (by omega)]; first | done | omega | exact hr | exact congrArg (I 362) (by omega))
           | (rw [if_neg (by omega), if_neg (by omega), if_neg (by omega), if_neg (by omega), if_neg (by omega), if_neg (by omega), if_neg (by omega), if_pos (by omega)]; first | done | omega | exact hr | exact congrArg (I 362) (by omega))
           | (rw [if_neg (by omega), if_neg (by omega), if_neg (by omega), if_neg (by omega), if_neg (by omega), if_neg (by omega), if_neg (by omega), if_neg (by omega), if_pos (by omega)]; first | done | omega | exact hr | exact congrArg (I 362) (by omega))
           | (rw [if_neg (by omega), if_neg (by omega), if_neg (by omega), if_neg (by omega), if_neg (by omega), if_neg (by omega), if_neg (by omega), if_neg (by omega), if_neg (by omega), if_pos (by omega)]; first | done | omega | exact hr | exact congrArg (I 362) (by omega) | (rw [hr, show w - 9 = 0 by omega]))
           | (rw [if_neg (by omega), if_neg (by omega), if_neg (by omega), if_neg (by omega), if_neg (by omega), if_neg (by omega), if_neg (by omega), if_neg (by omega), if_neg (by omega), if_neg (by omega), if_pos (by omega)]; first | done | omega | exact hr | exact congrArg (I 362) (by omega) | (rw [hr, show w - 9 = 1 by omega]))
           | (rw [if_neg (by omega), if_neg (by omega), if_neg (by omega), if_neg (by omega), if_neg (by omega), if_neg (by omega), if_neg (by omega), if_neg (by omega), if_neg (by omega), if_neg (by omega), if_neg (by omega), if_pos (by omega)]; first | done | omega | exact hr | exact congrArg (I 362) (by omega))
           | (rw [if_neg (by omega), if_neg (by omega), if_neg (by omega), if_neg (by omega), if_neg (by omega), if_neg (by omega), if_neg (by omega), if_neg (by omega), if_neg (by omega), if_neg (by omega), if_neg (by omega), if_neg (by omega)]; first | done | omega | exact hr | exact congrArg (I 362) (by omega)))
  · refine B_X10_counted_155 ?_
    try dsimp only
    refine ⟨sh361, _, hR.z, ?_⟩
    refine ⟨by (refine ⟨?_, ?_⟩ <;> omega), ?_⟩
    refine ⟨by (refine ⟨?_, ?_⟩ <;> omega), ?_⟩
    refine ⟨_, sh362, ⟨by omega, by omega⟩, ?_⟩
    refine hQ _ ?_
    first
      | (rw [if_pos (by omega)]; done)
      | (rw [if_neg (show ¬ w = 13 by omega)]
         unfold cntZ
         first
           | (rw [if_pos (by omega)]; first | done | omega | exact hr | exact congrArg (I 362) (by omega))
           | (rw [if_neg (by omega), if_pos (by omega)]; first | done | omega | exact hr | exact congrArg (I 362) (by omega))
           | (rw [if_neg (by omega), if_neg (by omega), if_pos (by omega)]; first | done | omega | exact hr | exact congrArg (I 362) (by omega))
           | (rw [if_neg (by omega), if_neg (by omega), if_neg (by omega), if_pos (by omega)]; first | done | omega | exact hr | exact congrArg (I 362) (by omega))
           | (rw [if_neg (by omega), if_neg (by omega), if_neg (by omega), if_neg (by omega), if_pos (by omega)]; first | done | omega | exact hr | exact congrArg (I 362) (by omega))
           | (rw [if_neg (by omega), if_neg (by omega), if_neg (by omega), if_neg (by omega), if_neg (by omega), if_pos (by omega)]; first | done | omega | exact hr | exact congrArg (I 362) (by omega))
           | (rw [if_neg (by omega), if_neg (by omega), if_neg (by omega), if_neg (by omega), if_neg (by omega), if_neg (by omega), if_pos (by omega)]; first | done | omega | exact hr | exact congrArg (I 362) (by omega))
           | (rw [if_neg (by omega), if_neg (by omega), if_neg (by omega), if_neg (by omega), if_neg (by omega), if_neg (by omega), if_neg (by omega), if_pos (by omega)]; first | done | omega | exact hr | exact congrArg (I 362) (by omega))
           | (rw [if_neg (by omega), if_neg (by omega), if_neg (by omega), if_neg (by omega), if_neg (by omega), if_neg (by omega), if_neg (by omega), if_neg (by omega), if_pos (by omega)]; first | done | omega | exact hr | exact congrArg (I 362) (by omega))
           | (rw [if_neg (by omega), if_neg (by omega), if_neg (by omega), if_neg (by omega), if_neg (by omega), if_neg (by omega), if_neg (by omega), if_neg (by omega), if_neg (by omega), if_pos (by omega)]; first | done | omega | exact hr | exact congrArg (I 362) (by omega) | (rw [hr, show w - 9 = 0 by omega]))
           | (rw [if_neg (by omega), if_neg (by omega), if_neg (by omega), if_neg (by omega), if_neg (by omega), if_neg (by omega), if_neg (by omega), if_neg (by omega), if_neg (by omega), if_neg (by omega), if_pos (by omega)]; first | done | omega | exact hr | exact congrArg (I 362) (by omega) | (rw [hr, show w - 9 = 1 by omega]))
           | (rw [if_neg (by omega), if_neg (by omega), if_neg (by omega), if_neg (by omega), if_neg (by omega), if_neg (by omega), if_neg (by omega), if_neg (by omega), if_neg (by omega), if_neg (by omega), if_neg (by omega), if_pos (by omega)]; first | done | omega | exact hr | exact congrArg (I 362) (by omega))
           | (rw [if_neg (by omega), if_neg (by omega), if_neg (by omega), if_neg (by omega), if_neg (by omega), if_neg (by omega), if_neg (by omega), if_neg (by omega), if_neg (by omega), if_neg (by omega), if_neg (by omega), if_neg (by omega)]; first | done | omega | exact hr | exact congrArg (I 362) (by omega)))
  · refine B_X10_counted_155 ?_
    try dsimp only
    refine ⟨sh361, _, hR.z, ?_⟩
    refine ⟨by (refine ⟨?_, ?_⟩ <;> omega), ?_⟩
    refine ⟨by (refine ⟨?_, ?_⟩ <;> omega), ?_⟩
    refine ⟨_, sh362, ⟨by omega, by omega⟩, ?_⟩
    refine hQ _ ?_
    first
      | (rw [if_pos (by omega)]; done)
      | (rw [if_neg (show ¬ w = 13 by omega)]
         unfold cntZ
         first
           | (rw [if_pos (by omega)]; first | done | omega | exact hr | exact congrArg (I 362) (by omega))
           | (rw [if_neg (by omega), if_pos (by omega)]; first | done | omega | exact hr | exact congrArg (I 362) (by omega))
           | (rw [if_neg (by omega), if_neg (by omega), if_pos (by omega)]; first | done | omega | exact hr | exact congrArg (I 362) (by omega))
           | (rw [if_neg (by omega), if_neg (by omega), if_neg (by omega), if_pos (by omega)]; first | done | omega | exact hr | exact congrArg (I 362) (by omega))
           | (rw [if_neg (by omega), if_neg (by omega), if_neg (by omega), if_neg (by omega), if_pos (by omega)]; first | done | omega | exact hr | exact congrArg (I 362) (by omega))
           | (rw [if_neg (by omega), if_neg (by omega), if_neg (by omega), if_neg (by omega), if_neg (by omega), if_pos (by omega)]; first | done | omega | exact hr | exact congrArg (I 362) (by omega))
           | (rw [if_neg (by omega), if_neg (by omega), if_neg (by omega), if_neg (by omega), if_neg (by omega), if_neg (by omega), if_pos (by omega)]; first | done | omega | exact hr | exact congrArg (I 362) (by omega))
           | (rw [if_neg (by omega), if_neg (by omega), if_neg (by omega), if_neg (by omega), if_neg (by omega), if_neg (by omega), if_neg (by omega), if_pos (by omega)]; first | done | omega | exact hr | exact congrArg (I 362) (by omega))
           | (rw [if_neg (by omega), if_neg (by omega), if_neg (by omega), if_neg (by omega), if_neg (by omega), if_neg (by omega), if_neg (by omega), if_neg (by omega), if_pos (by omega)]; first | done | omega | exact hr | exact congrArg (I 362) (by omega))
           | (rw [if_neg (by omega), if_neg (by omega), if_neg (by omega), if_neg (by omega), if_neg (by omega), if_neg (by omega), if_neg (by omega), if_neg (by omega), if_neg (by omega), if_pos (by omega)]; first | done | omega | exact hr | exact congrArg (I 362) (by omega) | (rw [hr, show w - 9 = 0 by omega]))
           | (rw [if_neg (by omega), if_neg (by omega), if_neg (by omega), if_neg (by omega), if_neg (by omega), if_neg (by omega), if_neg (by omega), if_neg (by omega), if_neg (by omega), if_neg (by omega), if_pos (by omega)]; first | done | omega | exact hr | exact congrArg (I 362) (by omega) | (rw [hr, show w - 9 = 1 by omega]))
           | (rw [if_neg (by omega), if_neg (by omega), if_neg (by omega), if_neg (by omega), if_neg (by omega), if_neg (by omega), if_neg (by omega), if_neg (by omega), if_neg (by omega), if_neg (by omega), if_neg (by omega), if_pos (by omega)]; first | done | omega | exact hr | exact congrArg (I 362) (by omega))
           | (rw [if_neg (by omega), if_neg (by omega), if_neg (by omega), if_neg (by omega), if_neg (by omega), if_neg (by omega), if_neg (by omega), if_neg (by omega), if_neg (by omega), if_neg (by omega), if_neg (by omega), if_neg (by omega)]; first | done | omega | exact hr | exact congrArg (I 362) (by omega)))
