/-! ===== the class: texts ===== -/
theorem sx0 : SH[346]? = some (6, 0) := by decide +kernel
theorem sx1 : SH[347]? = some (20, 60) := by decide +kernel
theorem sx2 : SH[348]? = some (20, 10) := by decide +kernel
theorem sx3 : SH[349]? = some (20, 10) := by decide +kernel
def RT (R : Nat → Nat → Option Nat) : Prop := R 346 0 = some 347 ∧ R 346 2 = some 348 ∧ R 346 3 = some 349
theorem stA_b (s c : Int) : -1 ≤ stA s c ∧ stA s c ≤ 7 := by
  unfold stA
  repeat' split
  all_goals omega
theorem sgN_b (t : Row) (n : Nat) : -1 ≤ sgN t n ∧ sgN t n ≤ 7 := by
  cases n with
  | zero =>
    show -1 ≤ (0 : Int) ∧ (0 : Int) ≤ 7
    decide
  | succ n => exact stA_b _ _
theorem D_isDigit {G : amG} {h : amH} {Q : amR → amH → Prop} (hG : amG0 G) {v w : Int} (hQ : ∀ r : Int, ((48 ≤ v ∧ v ≤ w) ∧ r = 1) ∨ (¬ (48 ≤ v ∧ v ≤ w) ∧ r = 0) → Q (Sum.inl (some (aI r))) (hGive h 0 0)) : CT G sX6_isDigit [aI v, aI w] h Q := by
  refine CT_of ok_X6_isDigit hG (Nat.le_of_ble_eq_true rfl) ?_
  show X G mX6_isDigit Q 0 _ [] (h.1, h.2.1, h.2.2.1, h.2.2.2.1, h.2.2.2.2.1, 0, 0)
  refine B_X6_isDigit_0 ?_
  try dsimp only
  refine ⟨fun c3_0 => ?_, fun c3_0 => ?_⟩
  · refine B_X6_isDigit_15 ?_
    try dsimp only
    refine B_X6_isDigit_16 ?_
    try dsimp only
    refine ⟨by first | exact Or.inl rfl | exact Or.inr rfl | exact Or.inl trivial | exact Or.inr trivial | omega, ?_⟩
    exact hQ _ (by omega)
  · refine ⟨fun c8_0 => ?_, fun c8_0 => ?_⟩
    · refine B_X6_isDigit_15 ?_
      try dsimp only
      refine B_X6_isDigit_16 ?_
      try dsimp only
      refine ⟨by first | exact Or.inl rfl | exact Or.inr rfl | exact Or.inl trivial | exact Or.inr trivial | omega, ?_⟩
      exact hQ _ (by omega)
    · refine B_X6_isDigit_16 ?_
      try dsimp only
      refine ⟨by first | exact Or.inl rfl | exact Or.inr rfl | exact Or.inl trivial | exact Or.inr trivial | omega, ?_⟩
      exact hQ _ (by omega)
theorem D_afterDigit {G : amG} {h : amH} {Q : amR → amH → Prop} (hG : amG0 G) {v a b : Int} (hQ : ∀ r : Int, r = (if 48 ≤ v ∧ v ≤ 57 then (if v = 49 then a else b) else -1) → Q (Sum.inl (some (aI r))) (hGive h 0 0)) : CT G sX6_afterDigit [aI v, aI a, aI b] h Q := by
  refine CT_of ok_X6_afterDigit hG (Nat.le_of_ble_eq_true rfl) ?_
  show X G mX6_afterDigit Q 0 _ [] (h.1, h.2.1, h.2.2.1, h.2.2.2.1, h.2.2.2.2.1, 0, 0)
  refine B_X6_afterDigit_0 ?_
  try dsimp only
  refine ⟨⟨Nat.zero_le _, Nat.zero_le _, Nat.le_of_ble_eq_true rfl⟩, trivial, ?_⟩
  refine D_isDigit hG (fun r hr => ?_)
  refine af_I0 rfl rfl (by decide) ?_
  try dsimp only
  refine B_X6_afterDigit_6 ?_
  try dsimp only
  refine ⟨fun c6_1 => ?_, fun c6_1 => ?_⟩
  · refine B_X6_afterDigit_11 ?_
    try dsimp only
    refine ⟨fun c14_2 => ?_, fun c14_2 => ?_⟩
    · refine B_X6_afterDigit_21 ?_
      try dsimp only
      refine B_X6_afterDigit_22 ?_
      try dsimp only
      refine hQ _ ?_
      split <;> (try split) <;> omega
    · refine B_X6_afterDigit_22 ?_
      try dsimp only
      refine hQ _ ?_
      split <;> (try split) <;> omega
  · refine hQ _ ?_
    split <;> (try split) <;> omega
theorem D_afterSign {G : amG} {h : amH} {Q : amR → amH → Prop} (hG : amG0 G) {v a b : Int} (hQ : ∀ r : Int, r = (if v = a then b else -1) → Q (Sum.inl (some (aI r))) (hGive h 0 0)) : CT G sX6_afterSign [aI v, aI a, aI b] h Q := by
  refine CT_of ok_X6_afterSign hG (Nat.le_of_ble_eq_true rfl) ?_
  show X G mX6_afterSign Q 0 _ [] (h.1, h.2.1, h.2.2.1, h.2.2.2.1, h.2.2.2.2.1, 0, 0)
  refine B_X6_afterSign_0 ?_
  try dsimp only
  refine ⟨fun c2_0 => ?_, fun c2_0 => ?_⟩
  · refine B_X6_afterSign_9 ?_
    try dsimp only
    refine B_X6_afterSign_10 ?_
    try dsimp only
    refine hQ _ ?_
    split <;> omega
  · refine B_X6_afterSign_10 ?_
    try dsimp only
    refine hQ _ ?_
    split <;> omega
theorem D_stageAfter {G : amG} {h : amH} {Q : amR → amH → Prop} (hG : amG0 G) {s v : Int} (hs : -1 ≤ s ∧ s ≤ 7) (hQ : ∀ r : Int, r = stA s v → Q (Sum.inl (some (aI r))) (hGive h 0 0)) : CT G sX6_stageAfter [aI s, aI v] h Q := by
  refine CT_of ok_X6_stageAfter hG (Nat.le_of_ble_eq_true rfl) ?_
  show X G mX6_stageAfter Q 0 _ [] (h.1, h.2.1, h.2.2.1, h.2.2.2.1, h.2.2.2.2.1, 0, 0)
  refine B_X6_stageAfter_0 ?_
  try dsimp only
  refine ⟨fun c1_0 => ?_, fun c1_0 => ?_, fun c1_0 => ?_, fun c1_0 => ?_, fun c1_0 => ?_, fun c1_0 => ?_, fun c1_0 => ?_, fun c1_0 => ?_, fun c1_0 => ?_, trivial⟩
  · refine B_X6_stageAfter_146 ?_
    try dsimp only
    refine hQ _ ?_
    first
      | (rw [show s = 0 by omega, stA_0]; split <;> (try split) <;> omega)
      | (rw [show s = 1 by omega, stA_1]; split <;> (try split) <;> omega)
      | (rw [show s = 2 by omega, stA_2]; split <;> (try split) <;> omega)
      | (rw [show s = 3 by omega, stA_3]; split <;> (try split) <;> omega)
      | (rw [show s = 4 by omega, stA_4]; split <;> (try split) <;> omega)
      | (rw [show s = 5 by omega, stA_5]; split <;> (try split) <;> omega)
      | (rw [show s = 6 by omega, stA_6]; split <;> (try split) <;> omega)
      | (rw [show s = 7 by omega, stA_7]; split <;> (try split) <;> omega)
      | (rw [show s = -1 by omega, stA_m])
  · refine B_X6_stageAfter_48 ?_
    try dsimp only
    refine ⟨⟨Nat.zero_le _, Nat.zero_le _, Nat.le_of_ble_eq_true rfl⟩, trivial, ?_⟩
    refine D_afterDigit hG (fun r2 hr2 => ?_)
    refine af_I0 rfl rfl (by decide) ?_
    try dsimp only
    refine B_X6_stageAfter_54 ?_
    try dsimp only
    refine hQ _ ?_
    first
      | (rw [show s = 0 by omega, stA_0]; split <;> (try split) <;> omega)
      | (rw [show s = 1 by omega, stA_1]; split <;> (try split) <;> omega)
      | (rw [show s = 2 by omega, stA_2]; split <;> (try split) <;> omega)
      | (rw [show s = 3 by omega, stA_3]; split <;> (try split) <;> omega)
      | (rw [show s = 4 by omega, stA_4]; split <;> (try split) <;> omega)
      | (rw [show s = 5 by omega, stA_5]; split <;> (try split) <;> omega)
      | (rw [show s = 6 by omega, stA_6]; split <;> (try split) <;> omega)
      | (rw [show s = 7 by omega, stA_7]; split <;> (try split) <;> omega)
      | (rw [show s = -1 by omega, stA_m])
  · refine B_X6_stageAfter_55 ?_
    try dsimp only
    refine ⟨⟨Nat.zero_le _, Nat.zero_le _, Nat.le_of_ble_eq_true rfl⟩, trivial, ?_⟩
    refine D_isDigit hG (fun r hr => ?_)
    refine af_I0 rfl rfl (by decide) ?_
    try dsimp only
    refine B_X6_stageAfter_61 ?_
    try dsimp only
    refine ⟨fun c61_2 => ?_, fun c61_2 => ?_⟩
    · refine B_X6_stageAfter_68 ?_
      try dsimp only
      refine ⟨⟨Nat.zero_le _, Nat.zero_le _, Nat.le_of_ble_eq_true rfl⟩, trivial, ?_⟩
      refine D_afterSign hG (fun r2 hr2 => ?_)
      refine af_I0 rfl rfl (by decide) ?_
      try dsimp only
      refine B_X6_stageAfter_75 ?_
      try dsimp only
      refine hQ _ ?_
      first
        | (rw [show s = 0 by omega, stA_0]; split <;> (try split) <;> omega)
        | (rw [show s = 1 by omega, stA_1]; split <;> (try split) <;> omega)
        | (rw [show s = 2 by omega, stA_2]; split <;> (try split) <;> omega)
        | (rw [show s = 3 by omega, stA_3]; split <;> (try split) <;> omega)
        | (rw [show s = 4 by omega, stA_4]; split <;> (try split) <;> omega)
        | (rw [show s = 5 by omega, stA_5]; split <;> (try split) <;> omega)
        | (rw [show s = 6 by omega, stA_6]; split <;> (try split) <;> omega)
        | (rw [show s = 7 by omega, stA_7]; split <;> (try split) <;> omega)
        | (rw [show s = -1 by omega, stA_m])
    · refine B_X6_stageAfter_75 ?_
      try dsimp only
      refine hQ _ ?_
      first
        | (rw [show s = 0 by omega, stA_0]; split <;> (try split) <;> omega)
        | (rw [show s = 1 by omega, stA_1]; split <;> (try split) <;> omega)
        | (rw [show s = 2 by omega, stA_2]; split <;> (try split) <;> omega)
        | (rw [show s = 3 by omega, stA_3]; split <;> (try split) <;> omega)
        | (rw [show s = 4 by omega, stA_4]; split <;> (try split) <;> omega)
        | (rw [show s = 5 by omega, stA_5]; split <;> (try split) <;> omega)
        | (rw [show s = 6 by omega, stA_6]; split <;> (try split) <;> omega)
        | (rw [show s = 7 by omega, stA_7]; split <;> (try split) <;> omega)
        | (rw [show s = -1 by omega, stA_m])
  · refine B_X6_stageAfter_76 ?_
    try dsimp only
    refine ⟨⟨Nat.zero_le _, Nat.zero_le _, Nat.le_of_ble_eq_true rfl⟩, trivial, ?_⟩
    refine D_afterSign hG (fun r2 hr2 => ?_)
    refine af_I0 rfl rfl (by decide) ?_
    try dsimp only
    refine B_X6_stageAfter_83 ?_
    try dsimp only
    refine hQ _ ?_
    first
      | (rw [show s = 0 by omega, stA_0]; split <;> (try split) <;> omega)
      | (rw [show s = 1 by omega, stA_1]; split <;> (try split) <;> omega)
      | (rw [show s = 2 by omega, stA_2]; split <;> (try split) <;> omega)
      | (rw [show s = 3 by omega, stA_3]; split <;> (try split) <;> omega)
      | (rw [show s = 4 by omega, stA_4]; split <;> (try split) <;> omega)
      | (rw [show s = 5 by omega, stA_5]; split <;> (try split) <;> omega)
      | (rw [show s = 6 by omega, stA_6]; split <;> (try split) <;> omega)
      | (rw [show s = 7 by omega, stA_7]; split <;> (try split) <;> omega)
      | (rw [show s = -1 by omega, stA_m])
  · refine B_X6_stageAfter_84 ?_
    try dsimp only
    refine ⟨⟨Nat.zero_le _, Nat.zero_le _, Nat.le_of_ble_eq_true rfl⟩, trivial, ?_⟩
    refine D_afterDigit hG (fun r2 hr2 => ?_)
    refine af_I0 rfl rfl (by decide) ?_
    try dsimp only
    refine B_X6_stageAfter_90 ?_
    try dsimp only
    refine hQ _ ?_
    first
      | (rw [show s = 0 by omega, stA_0]; split <;> (try split) <;> omega)
      | (rw [show s = 1 by omega, stA_1]; split <;> (try split) <;> omega)
      | (rw [show s = 2 by omega, stA_2]; split <;> (try split) <;> omega)
      | (rw [show s = 3 by omega, stA_3]; split <;> (try split) <;> omega)
      | (rw [show s = 4 by omega, stA_4]; split <;> (try split) <;> omega)
      | (rw [show s = 5 by omega, stA_5]; split <;> (try split) <;> omega)
      | (rw [show s = 6 by omega, stA_6]; split <;> (try split) <;> omega)
      | (rw [show s = 7 by omega, stA_7]; split <;> (try split) <;> omega)
      | (rw [show s = -1 by omega, stA_m])
  · refine B_X6_stageAfter_91 ?_
    try dsimp only
    refine ⟨⟨Nat.zero_le _, Nat.zero_le _, Nat.le_of_ble_eq_true rfl⟩, trivial, ?_⟩
    refine D_isDigit hG (fun r hr => ?_)
    refine af_I0 rfl rfl (by decide) ?_
    try dsimp only
    refine B_X6_stageAfter_97 ?_
    try dsimp only
    refine ⟨fun c97_2 => ?_, fun c97_2 => ?_⟩
    · refine B_X6_stageAfter_104 ?_
      try dsimp only
      refine ⟨⟨Nat.zero_le _, Nat.zero_le _, Nat.le_of_ble_eq_true rfl⟩, trivial, ?_⟩
      refine D_afterSign hG (fun r2 hr2 => ?_)
      refine af_I0 rfl rfl (by decide) ?_
      try dsimp only
      refine B_X6_stageAfter_112 ?_
      try dsimp only
      refine hQ _ ?_
      first
        | (rw [show s = 0 by omega, stA_0]; split <;> (try split) <;> omega)
        | (rw [show s = 1 by omega, stA_1]; split <;> (try split) <;> omega)
        | (rw [show s = 2 by omega, stA_2]; split <;> (try split) <;> omega)
        | (rw [show s = 3 by omega, stA_3]; split <;> (try split) <;> omega)
        | (rw [show s = 4 by omega, stA_4]; split <;> (try split) <;> omega)
        | (rw [show s = 5 by omega, stA_5]; split <;> (try split) <;> omega)
        | (rw [show s = 6 by omega, stA_6]; split <;> (try split) <;> omega)
        | (rw [show s = 7 by omega, stA_7]; split <;> (try split) <;> omega)
        | (rw [show s = -1 by omega, stA_m])
    · refine B_X6_stageAfter_112 ?_
      try dsimp only
      refine hQ _ ?_
      first
        | (rw [show s = 0 by omega, stA_0]; split <;> (try split) <;> omega)
        | (rw [show s = 1 by omega, stA_1]; split <;> (try split) <;> omega)
        | (rw [show s = 2 by omega, stA_2]; split <;> (try split) <;> omega)
        | (rw [show s = 3 by omega, stA_3]; split <;> (try split) <;> omega)
        | (rw [show s = 4 by omega, stA_4]; split <;> (try split) <;> omega)
        | (rw [show s = 5 by omega, stA_5]; split <;> (try split) <;> omega)
        | (rw [show s = 6 by omega, stA_6]; split <;> (try split) <;> omega)
        | (rw [show s = 7 by omega, stA_7]; split <;> (try split) <;> omega)
        | (rw [show s = -1 by omega, stA_m])
  · refine B_X6_stageAfter_113 ?_
    try dsimp only
    refine ⟨⟨Nat.zero_le _, Nat.zero_le _, Nat.le_of_ble_eq_true rfl⟩, trivial, ?_⟩
    refine D_afterSign hG (fun r2 hr2 => ?_)
    refine af_I0 rfl rfl (by decide) ?_
    try dsimp only
    refine B_X6_stageAfter_121 ?_
    try dsimp only
    refine hQ _ ?_
    first
      | (rw [show s = 0 by omega, stA_0]; split <;> (try split) <;> omega)
      | (rw [show s = 1 by omega, stA_1]; split <;> (try split) <;> omega)
      | (rw [show s = 2 by omega, stA_2]; split <;> (try split) <;> omega)
      | (rw [show s = 3 by omega, stA_3]; split <;> (try split) <;> omega)
      | (rw [show s = 4 by omega, stA_4]; split <;> (try split) <;> omega)
      | (rw [show s = 5 by omega, stA_5]; split <;> (try split) <;> omega)
      | (rw [show s = 6 by omega, stA_6]; split <;> (try split) <;> omega)
      | (rw [show s = 7 by omega, stA_7]; split <;> (try split) <;> omega)
      | (rw [show s = -1 by omega, stA_m])
  · refine B_X6_stageAfter_122 ?_
    try dsimp only
    refine ⟨⟨Nat.zero_le _, Nat.zero_le _, Nat.le_of_ble_eq_true rfl⟩, trivial, ?_⟩
    refine D_isDigit hG (fun r hr => ?_)
    refine af_I0 rfl rfl (by decide) ?_
    try dsimp only
    refine B_X6_stageAfter_128 ?_
    try dsimp only
    refine ⟨fun c128_2 => ?_, fun c128_2 => ?_⟩
    · refine B_X6_stageAfter_136 ?_
      try dsimp only
      refine B_X6_stageAfter_137 ?_
      try dsimp only
      refine hQ _ ?_
      first
        | (rw [show s = 0 by omega, stA_0]; split <;> (try split) <;> omega)
        | (rw [show s = 1 by omega, stA_1]; split <;> (try split) <;> omega)
        | (rw [show s = 2 by omega, stA_2]; split <;> (try split) <;> omega)
        | (rw [show s = 3 by omega, stA_3]; split <;> (try split) <;> omega)
        | (rw [show s = 4 by omega, stA_4]; split <;> (try split) <;> omega)
        | (rw [show s = 5 by omega, stA_5]; split <;> (try split) <;> omega)
        | (rw [show s = 6 by omega, stA_6]; split <;> (try split) <;> omega)
        | (rw [show s = 7 by omega, stA_7]; split <;> (try split) <;> omega)
        | (rw [show s = -1 by omega, stA_m])
    · refine B_X6_stageAfter_137 ?_
      try dsimp only
      refine hQ _ ?_
      first
        | (rw [show s = 0 by omega, stA_0]; split <;> (try split) <;> omega)
        | (rw [show s = 1 by omega, stA_1]; split <;> (try split) <;> omega)
        | (rw [show s = 2 by omega, stA_2]; split <;> (try split) <;> omega)
        | (rw [show s = 3 by omega, stA_3]; split <;> (try split) <;> omega)
        | (rw [show s = 4 by omega, stA_4]; split <;> (try split) <;> omega)
        | (rw [show s = 5 by omega, stA_5]; split <;> (try split) <;> omega)
        | (rw [show s = 6 by omega, stA_6]; split <;> (try split) <;> omega)
        | (rw [show s = 7 by omega, stA_7]; split <;> (try split) <;> omega)
        | (rw [show s = -1 by omega, stA_m])
  · refine B_X6_stageAfter_138 ?_
    try dsimp only
    refine ⟨⟨Nat.zero_le _, Nat.zero_le _, Nat.le_of_ble_eq_true rfl⟩, trivial, ?_⟩
    refine D_afterSign hG (fun r2 hr2 => ?_)
    refine af_I0 rfl rfl (by decide) ?_
    try dsimp only
    refine B_X6_stageAfter_145 ?_
    try dsimp only
    refine hQ _ ?_
    first
      | (rw [show s = 0 by omega, stA_0]; split <;> (try split) <;> omega)
      | (rw [show s = 1 by omega, stA_1]; split <;> (try split) <;> omega)
      | (rw [show s = 2 by omega, stA_2]; split <;> (try split) <;> omega)
      | (rw [show s = 3 by omega, stA_3]; split <;> (try split) <;> omega)
      | (rw [show s = 4 by omega, stA_4]; split <;> (try split) <;> omega)
      | (rw [show s = 5 by omega, stA_5]; split <;> (try split) <;> omega)
      | (rw [show s = 6 by omega, stA_6]; split <;> (try split) <;> omega)
      | (rw [show s = 7 by omega, stA_7]; split <;> (try split) <;> omega)
      | (rw [show s = -1 by omega, stA_m])
theorem L_firstFault {G : amG} {I : Nat → Nat → Int} {R : Nat → Nat → Option Nat} {L : Nat → Nat → Int64} {x : Nat} {Q : amR → amH → Prop} (hG : amG0 G) (hRT : RT R) (hl : 0 ≤ I 346 1 ∧ I 346 1 ≤ 60) (hQ : ∀ k : Nat, (k : Int) ≤ I 346 1 → (∀ i : Nat, i ≤ k → sgN (I 347) i ≠ -1) → ((k : Int) = I 346 1 ∨ sgN (I 347) (k + 1) = -1) → Q (Sum.inl (some (aI k))) (I, R, L, SH, x, 0, 0)) :
    ∀ (n : Nat) (j s : Int), (0 ≤ j ∧ j ≤ I 346 1 ∧ I 346 1 - j < n) → s = sgN (I 347) j.toNat → (∀ i : Nat, i ≤ j.toNat → sgN (I 347) i ≠ -1) → X G mX6_firstFault Q 4 [some (aR (some 346)), some (aI s), some (aI j)] [] (I, R, L, SH, x, 0, 0) := by
  intro n
  induction n with
  | zero =>
    intros
    exfalso; omega
  | succ n ih =>
    intro j s h1 hs hi
    have hss := sgN_s (I 347) j.toNat
    rw [← hs] at hss
    have hsb := sgN_b (I 347) j.toNat
    rw [← hs] at hsb
    have hQ' : ((j.toNat : Nat) : Int) = j := by omega
    refine B_X6_firstFault_4 ?_
    try dsimp only
    refine ⟨sx0, ?_⟩
    refine ⟨fun c9_0 => ?_, fun c9_0 => ?_⟩
    · refine B_X6_firstFault_36 ?_
      try dsimp only
      refine ⟨sx0, ?_⟩
      first
        | (have e := hQ j.toNat (by omega) hi (Or.inl (by omega))
           rw [show ((j.toNat : Nat) : Int) = I 346 1 by omega] at e
           exact e)
        | (have e := hQ j.toNat (by omega) hi (Or.inr (by rw [hss, ← hr]; exact Decidable.not_not.mp (by assumption)))
           rw [hQ'] at e
           exact e)
    · refine ⟨sx0, _, hRT.1, ?_⟩
      refine ⟨_, sx1, ⟨by omega, by omega⟩, ?_⟩
      refine ⟨⟨Nat.zero_le _, Nat.zero_le _, Nat.le_of_ble_eq_true rfl⟩, trivial, ?_⟩
      refine D_stageAfter hG hsb (fun r hr => ?_)
      refine af_I0 rfl rfl (by decide) ?_
      try dsimp only
      refine B_X6_firstFault_22 ?_
      try dsimp only
      refine ⟨fun c25_1 => ?_, fun c25_1 => ?_⟩
      · refine B_X6_firstFault_30 ?_
        try dsimp only
        refine ⟨by (refine ⟨?_, ?_⟩ <;> omega), ?_⟩
        refine ih (j + 1) _ (by omega) (by rw [show (j + 1).toNat = j.toNat + 1 by omega, hss]; exact hr) (fun i h2 => ?_)
        rcases (by omega : i ≤ j.toNat ∨ i = j.toNat + 1) with u | u
        · exact hi i u
        · rw [u, hss, ← hr]
          assumption
      · first
          | (have e := hQ j.toNat (by omega) hi (Or.inl (by omega))
             rw [show ((j.toNat : Nat) : Int) = I 346 1 by omega] at e
             exact e)
          | (have e := hQ j.toNat (by omega) hi (Or.inr (by rw [hss, ← hr]; exact Decidable.not_not.mp (by assumption)))
             rw [hQ'] at e
             exact e)
theorem D_firstFault {G : amG} {I : Nat → Nat → Int} {R : Nat → Nat → Option Nat} {L : Nat → Nat → Int64} {x c t : Nat} {Q : amR → amH → Prop} (hG : amG0 G) (hRT : RT R) (hl : 0 ≤ I 346 1 ∧ I 346 1 ≤ 60) (hQ : ∀ k : Nat, (k : Int) ≤ I 346 1 → (∀ i : Nat, i ≤ k → sgN (I 347) i ≠ -1) → ((k : Int) = I 346 1 ∨ sgN (I 347) (k + 1) = -1) → Q (Sum.inl (some (aI k))) (I, R, L, SH, x, 0, 0)) : CT G sX6_firstFault [aR (some 346)] (I, R, L, SH, x, c, t) Q := by
  refine CT_of ok_X6_firstFault hG (Nat.le_of_ble_eq_true rfl) ?_
  show X G mX6_firstFault Q 0 _ [] (I, R, L, SH, x, 0, 0)
  refine B_X6_firstFault_0 ?_
  try dsimp only
  exact L_firstFault hG hRT hl hQ 61 0 0 (by omega) rfl (fun i hi => by rw [show i = 0 by omega]; show (0 : Int) ≠ -1; decide)
theorem L_isComplete {G : amG} {I : Nat → Nat → Int} {R : Nat → Nat → Option Nat} {L : Nat → Nat → Int64} {x : Nat} {Q : amR → amH → Prop} (hG : amG0 G) (hRT : RT R) (hl : 0 ≤ I 346 1 ∧ I 346 1 ≤ 60) (hQ : ∀ r : Int, ((sgN (I 347) (I 346 1).toNat = 7) ∧ r = 1) ∨ (¬ (sgN (I 347) (I 346 1).toNat = 7) ∧ r = 0) → Q (Sum.inl (some (aI r))) (I, R, L, SH, x, 0, 0)) :
    ∀ (n : Nat) (j s : Int), (0 ≤ j ∧ j ≤ I 346 1 ∧ I 346 1 - j < n) → s = sgN (I 347) j.toNat → X G mX6_isComplete Q 4 [some (aR (some 346)), some (aI s), some (aI j)] [] (I, R, L, SH, x, 0, 0) := by
  intro n
  induction n with
  | zero =>
    intros
    exfalso; omega
  | succ n ih =>
    intro j s h1 hs
    have hss := sgN_s (I 347) j.toNat
    rw [← hs] at hss
    have hsb := sgN_b (I 347) j.toNat
    rw [← hs] at hsb
    refine B_X6_isComplete_4 ?_
    try dsimp only
    refine ⟨sx0, ?_⟩
    refine ⟨fun c9_0 => ?_, fun c9_0 => ?_⟩
    · refine B_X6_isComplete_29 ?_
      try dsimp only
      refine ⟨fun c32_1 => ?_, fun c32_1 => ?_⟩
      · refine B_X6_isComplete_39 ?_
        try dsimp only
        refine B_X6_isComplete_40 ?_
        try dsimp only
        refine ⟨by first | exact Or.inl rfl | exact Or.inr rfl | exact Or.inl trivial | exact Or.inr trivial | omega, ?_⟩
        rw [show j.toNat = (I 346 1).toNat by omega] at hs
        exact hQ _ (by omega)
      · refine B_X6_isComplete_40 ?_
        try dsimp only
        refine ⟨by first | exact Or.inl rfl | exact Or.inr rfl | exact Or.inl trivial | exact Or.inr trivial | omega, ?_⟩
        rw [show j.toNat = (I 346 1).toNat by omega] at hs
        exact hQ _ (by omega)
    · refine ⟨sx0, _, hRT.1, ?_⟩
      refine ⟨_, sx1, ⟨by omega, by omega⟩, ?_⟩
      refine ⟨⟨Nat.zero_le _, Nat.zero_le _, Nat.le_of_ble_eq_true rfl⟩, trivial, ?_⟩
      refine D_stageAfter hG hsb (fun r hr => ?_)
      refine af_I0 rfl rfl (by decide) ?_
      try dsimp only
      refine B_X6_isComplete_22 ?_
      try dsimp only
      refine ⟨by (refine ⟨?_, ?_⟩ <;> omega), ?_⟩
      exact ih (j + 1) _ (by omega) (by rw [show (j + 1).toNat = j.toNat + 1 by omega, hss]; exact hr)
theorem D_isComplete {G : amG} {I : Nat → Nat → Int} {R : Nat → Nat → Option Nat} {L : Nat → Nat → Int64} {x c t : Nat} {Q : amR → amH → Prop} (hG : amG0 G) (hRT : RT R) (hl : 0 ≤ I 346 1 ∧ I 346 1 ≤ 60) (hQ : ∀ r : Int, ((sgN (I 347) (I 346 1).toNat = 7) ∧ r = 1) ∨ (¬ (sgN (I 347) (I 346 1).toNat = 7) ∧ r = 0) → Q (Sum.inl (some (aI r))) (I, R, L, SH, x, 0, 0)) : CT G sX6_isComplete [aR (some 346)] (I, R, L, SH, x, c, t) Q := by
  refine CT_of ok_X6_isComplete hG (Nat.le_of_ble_eq_true rfl) ?_
  show X G mX6_isComplete Q 0 _ [] (I, R, L, SH, x, 0, 0)
  refine B_X6_isComplete_0 ?_
  try dsimp only
  exact L_isComplete hG hRT hl hQ 61 0 0 (by omega) rfl
theorem D_add {G : amG} {I : Nat → Nat → Int} {R : Nat → Nat → Option Nat} {L : Nat → Nat → Int64} {x c t : Nat} {Q : amR → amH → Prop} (hG : amG0 G) (hRT : RT R) {v : Int} (hl : 0 ≤ I 346 1 ∧ I 346 1 < 60) (hQ : Q (Sum.inl (some (aI (I 346 1 + 1)))) (u2 (u2 I 347 (I 346 1).toNat v) 346 1 (I 346 1 + 1), R, L, SH, x, 0, 0)) : CT G sX6_add [aR (some 346), aI v] (I, R, L, SH, x, c, t) Q := by
  refine CT_of ok_X6_add hG (Nat.le_of_ble_eq_true rfl) ?_
  show X G mX6_add Q 0 _ [] (I, R, L, SH, x, 0, 0)
  refine B_X6_add_0 ?_
  try dsimp only
  try simp (disch := omega) only [u2_same, u2_ne]
  refine ⟨sx0, _, hRT.1, ?_⟩
  refine ⟨sx0, ?_⟩
  try simp (disch := omega) only [u2_same, u2_ne]
  refine ⟨_, sx1, ⟨by omega, by omega⟩, ?_⟩
  try simp (disch := omega) only [u2_same, u2_ne]
  refine ⟨rfl, ?_⟩
  refine ⟨sx0, ?_⟩
  try simp (disch := omega) only [u2_same, u2_ne]
  refine ⟨by (refine ⟨?_, ?_⟩ <;> omega), ?_⟩
  refine ⟨sx0, ?_⟩
  try simp (disch := omega) only [u2_same, u2_ne]
  refine ⟨sx0, ?_⟩
  try simp (disch := omega) only [u2_same, u2_ne]
  exact hQ
