/-! ===== the model: small methods ===== -/
theorem C_within {G : amG} {h : amH} {Q : amR → amH → Prop} (hG : amG0 G) {v lo hi : Int} (hQ : ∀ r : Int, ((lo ≤ v ∧ v ≤ hi) ∧ r = 1) ∨ (¬ (lo ≤ v ∧ v ≤ hi) ∧ r = 0) → Q (Sum.inl (some (aI r))) (hGive h 0 0)) : CT G sX10_within [aI v, aI lo, aI hi] h Q := by
  refine CT_of ok_X10_within hG (Nat.le_of_ble_eq_true rfl) ?_
  show X G mX10_within Q 0 _ [] (h.1, h.2.1, h.2.2.1, h.2.2.2.1, h.2.2.2.2.1, 0, 0)
  refine B_X10_within_0 ?_
  try dsimp only
  refine ⟨fun c2_0 => ?_, fun c2_0 => ?_⟩
  · refine B_X10_within_14 ?_
    try dsimp only
    refine B_X10_within_15 ?_
    try dsimp only
    refine ⟨by first | exact Or.inl rfl | exact Or.inr rfl | omega, ?_⟩
    exact hQ _ (by omega)
  · refine ⟨fun c7_0 => ?_, fun c7_0 => ?_⟩
    · refine B_X10_within_14 ?_
      try dsimp only
      refine B_X10_within_15 ?_
      try dsimp only
      refine ⟨by first | exact Or.inl rfl | exact Or.inr rfl | omega, ?_⟩
      exact hQ _ (by omega)
    · refine B_X10_within_15 ?_
      try dsimp only
      refine ⟨by first | exact Or.inl rfl | exact Or.inr rfl | omega, ?_⟩
      exact hQ _ (by omega)
theorem C_size {G : amG} {h : amH} {Q : amR → amH → Prop} (hG : amG0 G) {v : Int} (hv : -1000000 ≤ v ∧ v ≤ 1000000) (hQ : ∀ r : Int, (0 ≤ v ∧ r = v) ∨ (v < 0 ∧ r = -v) → Q (Sum.inl (some (aI r))) (hGive h 0 0)) : CT G sX10_size [aI v] h Q := by
  refine CT_of ok_X10_size hG (Nat.le_of_ble_eq_true rfl) ?_
  show X G mX10_size Q 0 _ [] (h.1, h.2.1, h.2.2.1, h.2.2.2.1, h.2.2.2.2.1, 0, 0)
  refine B_X10_size_0 ?_
  try dsimp only
  refine ⟨fun c1_0 => ?_, fun c1_0 => ?_⟩
  · refine B_X10_size_9 ?_
    try dsimp only
    refine B_X10_size_10 ?_
    try dsimp only
    exact hQ _ (by omega)
  · refine ⟨by (refine ⟨?_, ?_⟩ <;> omega), ?_⟩
    refine B_X10_size_10 ?_
    try dsimp only
    exact hQ _ (by omega)
theorem C_isCell {G : amG} {h : amH} {Q : amR → amH → Prop} (hG : amG0 G) {v : Int} (hQ : ∀ r : Int, ((0 ≤ v ∧ v ≤ 95) ∧ r = 1) ∨ (¬ (0 ≤ v ∧ v ≤ 95) ∧ r = 0) → Q (Sum.inl (some (aI r))) (hGive h 0 0)) : CT G sX10_isCell [aI v] h Q := by
  refine CT_of ok_X10_isCell hG (Nat.le_of_ble_eq_true rfl) ?_
  show X G mX10_isCell Q 0 _ [] (h.1, h.2.1, h.2.2.1, h.2.2.2.1, h.2.2.2.2.1, 0, 0)
  refine B_X10_isCell_0 ?_
  try dsimp only
  refine ⟨⟨Nat.zero_le _, Nat.zero_le _, Nat.le_of_ble_eq_true rfl⟩, trivial, ?_⟩
  refine C_within hG (fun r hr => ?_)
  refine af_I0 rfl rfl (by decide) ?_
  try dsimp only
  refine B_X10_isCell_7 ?_
  try dsimp only
  refine ⟨by first | exact Or.inl rfl | exact Or.inr rfl | omega, ?_⟩
  exact hQ _ hr
theorem C_isSide {G : amG} {h : amH} {Q : amR → amH → Prop} (hG : amG0 G) {v : Int} (hQ : ∀ r : Int, ((0 ≤ v ∧ v ≤ 1) ∧ r = 1) ∨ (¬ (0 ≤ v ∧ v ≤ 1) ∧ r = 0) → Q (Sum.inl (some (aI r))) (hGive h 0 0)) : CT G sX10_isSide [aI v] h Q := by
  refine CT_of ok_X10_isSide hG (Nat.le_of_ble_eq_true rfl) ?_
  show X G mX10_isSide Q 0 _ [] (h.1, h.2.1, h.2.2.1, h.2.2.2.1, h.2.2.2.2.1, 0, 0)
  refine B_X10_isSide_0 ?_
  try dsimp only
  refine ⟨⟨Nat.zero_le _, Nat.zero_le _, Nat.le_of_ble_eq_true rfl⟩, trivial, ?_⟩
  refine C_within hG (fun r hr => ?_)
  refine af_I0 rfl rfl (by decide) ?_
  try dsimp only
  refine B_X10_isSide_6 ?_
  try dsimp only
  refine ⟨by first | exact Or.inl rfl | exact Or.inr rfl | omega, ?_⟩
  exact hQ _ hr
theorem C_isTroop {G : amG} {I : Nat → Nat → Int} {R : Nat → Nat → Option Nat} {L : Nat → Nat → Int64} {x c t : Nat} {Q : amR → amH → Prop} (hG : amG0 G) (hR : RM R) {v : Int} (hn : 0 ≤ I 362 98 ∧ I 362 98 ≤ 12) (hQ : ∀ r : Int, ((0 ≤ v ∧ v < I 362 98) ∧ r = 1) ∨ (¬ (0 ≤ v ∧ v < I 362 98) ∧ r = 0) → Q (Sum.inl (some (aI r))) (I, R, L, SH, x, 0, 0)) : CT G sX10_isTroop [aR (some 361), aI v] (I, R, L, SH, x, c, t) Q := by
  refine CT_of ok_X10_isTroop hG (Nat.le_of_ble_eq_true rfl) ?_
  show X G mX10_isTroop Q 0 _ [] (I, R, L, SH, x, 0, 0)
  refine B_X10_isTroop_0 ?_
  try dsimp only
  refine ⟨sh361, _, hR.z, ?_⟩
  refine ⟨_, sh362, ⟨by omega, by omega⟩, ?_⟩
  refine ⟨by (refine ⟨?_, ?_⟩ <;> omega), ?_⟩
  refine ⟨⟨Nat.zero_le _, Nat.zero_le _, Nat.le_of_ble_eq_true rfl⟩, trivial, ?_⟩
  refine C_within hG (fun r hr => ?_)
  refine af_I0 rfl rfl (by decide) ?_
  try dsimp only
  refine B_X10_isTroop_14 ?_
  try dsimp only
  refine ⟨by first | exact Or.inl rfl | exact Or.inr rfl | omega, ?_⟩
  exact hQ _ (by omega)
theorem C_of {G : amG} {I : Nat → Nat → Int} {R : Nat → Nat → Option Nat} {L : Nat → Nat → Int64} {x c t : Nat} {Q : amR → amH → Prop} (hG : amG0 G) (hR : RM R) {k w : Int} (hk : 0 ≤ k ∧ k < 12) (hw : 0 ≤ w ∧ w < 8) (hQ : ∀ r : Int, r = I 362 (99 + 8 * k.toNat + w.toNat) → Q (Sum.inl (some (aI r))) (I, R, L, SH, x, 0, 0)) : CT G sX10_of [aR (some 361), aI k, aI w] (I, R, L, SH, x, c, t) Q := by
  refine CT_of ok_X10_of hG (Nat.le_of_ble_eq_true rfl) ?_
  show X G mX10_of Q 0 _ [] (I, R, L, SH, x, 0, 0)
  refine B_X10_of_0 ?_
  try dsimp only
  refine ⟨sh361, _, hR.z, ?_⟩
  refine ⟨by (refine ⟨?_, ?_⟩ <;> omega), ?_⟩
  refine ⟨by (refine ⟨?_, ?_⟩ <;> omega), ?_⟩
  refine ⟨by (refine ⟨?_, ?_⟩ <;> omega), ?_⟩
  refine ⟨_, sh362, ⟨by omega, by omega⟩, ?_⟩
  exact hQ _ (congrArg (I 362) (by omega))
theorem C_lay {G : amG} {I : Nat → Nat → Int} {R : Nat → Nat → Option Nat} {L : Nat → Nat → Int64} {x c t : Nat} {Q : amR → amH → Prop} (hG : amG0 G) (hR : RM R) {k w v : Int} (hk : 0 ≤ k ∧ k < 12) (hw : 0 ≤ w ∧ w < 8) (hQ : Q (Sum.inl none) (u2 I 362 (99 + 8 * k.toNat + w.toNat) v, R, L, SH, x, 0, 0)) : CT G sX10_lay [aR (some 361), aI k, aI w, aI v] (I, R, L, SH, x, c, t) Q := by
  refine CT_of ok_X10_lay hG (Nat.le_of_ble_eq_true rfl) ?_
  show X G mX10_lay Q 0 _ [] (I, R, L, SH, x, 0, 0)
  refine B_X10_lay_0 ?_
  try dsimp only
  refine ⟨sh361, _, hR.z, ?_⟩
  refine ⟨by (refine ⟨?_, ?_⟩ <;> omega), ?_⟩
  refine ⟨by (refine ⟨?_, ?_⟩ <;> omega), ?_⟩
  refine ⟨by (refine ⟨?_, ?_⟩ <;> omega), ?_⟩
  refine ⟨_, sh362, ⟨by omega, by omega⟩, ?_⟩
  refine ⟨rfl, ?_⟩
  have e : (99 + 8 * k + w).toNat = 99 + 8 * k.toNat + w.toNat := by omega
  rw [← e] at hQ
  exact hQ
/-- the neighbour of a cell -/
def nb (c d : Int) : Int := if d = 0 then (if c < 12 then -1 else c - 12) else if d = 1 then (if c % 12 = 11 then -1 else c + 1) else if d = 2 then (if 84 ≤ c then -1 else c + 12) else (if c % 12 = 0 then -1 else c - 1)
theorem C_neighbor {G : amG} {h : amH} {Q : amR → amH → Prop} (hG : amG0 G) {v d : Int} (hv : 0 ≤ v ∧ v < 96) (hd : 0 ≤ d ∧ d < 4) (hQ : ∀ r : Int, r = nb v d → Q (Sum.inl (some (aI r))) (hGive h 0 0)) : CT G sX10_neighbor [aI v, aI d] h Q := by
  refine CT_of ok_X10_neighbor hG (Nat.le_of_ble_eq_true rfl) ?_
  show X G mX10_neighbor Q 0 _ [] (h.1, h.2.1, h.2.2.1, h.2.2.2.1, h.2.2.2.2.1, 0, 0)
  have td : v.tdiv 12 = v / 12 := Int.tdiv_eq_ediv_of_nonneg (by omega)
  have tm : v.tmod 12 = v % 12 := Int.tmod_eq_emod_of_nonneg (by omega)
  refine B_X10_neighbor_0 ?_
  try dsimp only
  refine ⟨⟨by decide, by (refine ⟨?_, ?_⟩ <;> omega)⟩, ?_⟩
  refine ⟨fun c6_0 => ?_, fun c6_0 => ?_, fun c6_0 => ?_, fun c6_0 => ?_, trivial⟩
  · refine B_X10_neighbor_76 ?_
    try dsimp only
    refine ⟨fun c77_1 => ?_, fun c77_1 => ?_⟩
    · refine B_X10_neighbor_84 ?_
      try dsimp only
      refine ⟨by (refine ⟨?_, ?_⟩ <;> omega), ?_⟩
      refine B_X10_neighbor_87 ?_
      try dsimp only
      refine hQ _ ?_
      unfold nb
      split <;> (try split) <;> (try split) <;> (try split) <;> first | omega | (simp_all; done) | (simp_all; omega)
    · refine B_X10_neighbor_87 ?_
      try dsimp only
      refine hQ _ ?_
      unfold nb
      split <;> (try split) <;> (try split) <;> (try split) <;> first | omega | (simp_all; done) | (simp_all; omega)
  · refine B_X10_neighbor_32 ?_
    try dsimp only
    refine ⟨fun c35_1 => ?_, fun c35_1 => ?_⟩
    · refine B_X10_neighbor_42 ?_
      try dsimp only
      refine ⟨by (refine ⟨?_, ?_⟩ <;> omega), ?_⟩
      refine B_X10_neighbor_46 ?_
      try dsimp only
      refine hQ _ ?_
      unfold nb
      split <;> (try split) <;> (try split) <;> (try split) <;> first | omega | (simp_all; done) | (simp_all; omega)
    · refine B_X10_neighbor_46 ?_
      try dsimp only
      refine hQ _ ?_
      unfold nb
      split <;> (try split) <;> (try split) <;> (try split) <;> first | omega | (simp_all; done) | (simp_all; omega)
  · refine B_X10_neighbor_47 ?_
    try dsimp only
    refine ⟨fun c50_1 => ?_, fun c50_1 => ?_⟩
    · refine B_X10_neighbor_57 ?_
      try dsimp only
      refine ⟨by (refine ⟨?_, ?_⟩ <;> omega), ?_⟩
      refine B_X10_neighbor_60 ?_
      try dsimp only
      refine hQ _ ?_
      unfold nb
      split <;> (try split) <;> (try split) <;> (try split) <;> first | omega | (simp_all; done) | (simp_all; omega)
    · refine B_X10_neighbor_60 ?_
      try dsimp only
      refine hQ _ ?_
      unfold nb
      split <;> (try split) <;> (try split) <;> (try split) <;> first | omega | (simp_all; done) | (simp_all; omega)
  · refine B_X10_neighbor_61 ?_
    try dsimp only
    refine ⟨fun c64_1 => ?_, fun c64_1 => ?_⟩
    · refine B_X10_neighbor_71 ?_
      try dsimp only
      refine ⟨by (refine ⟨?_, ?_⟩ <;> omega), ?_⟩
      refine B_X10_neighbor_75 ?_
      try dsimp only
      refine hQ _ ?_
      unfold nb
      split <;> (try split) <;> (try split) <;> (try split) <;> first | omega | (simp_all; done) | (simp_all; omega)
    · refine B_X10_neighbor_75 ?_
      try dsimp only
      refine hQ _ ?_
      unfold nb
      split <;> (try split) <;> (try split) <;> (try split) <;> first | omega | (simp_all; done) | (simp_all; omega)
