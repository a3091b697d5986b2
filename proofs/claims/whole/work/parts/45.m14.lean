/-! ===== the model: a turn passes ===== -/
theorem L_ps1 {G : amG} {I : Nat → Nat → Int} {R : Nat → Nat → Option Nat} {L : Nat → Nat → Int64} {x : Nat} {Q : amR → amH → Prop} (hG : amG0 G) (hR : RM R) {y : Row} (hb : wfB y) (hK : ∀ f q : Row, X G mX10_passOne Q 40 [some (aR (some 361)), some (aI (y 98))] [] (m3 I (mchN y (y 98).toNat) f q, R, L, SH, x, 0, 0)) :
    ∀ (n : Nat) (j : Int) (f q : Row), 0 ≤ j ∧ j ≤ y 98 ∧ y 98 - j < n → X G mX10_passOne Q 18 [some (aR (some 361)), some (aI j)] [] (m3 I (mchN y j.toNat) f q, R, L, SH, x, 0, 0) := by
  intro n
  induction n with
  | zero =>
    intros
    exfalso; omega
  | succ n ih =>
    intro j f q h1
    have hn1 := hb.2.1.1
    have hn2 := hb.2.1.2
    have hs := mchN_s y j.toNat
    obtain ⟨hS, hI, hJ⟩ := mchN_inv hb j.toNat (by omega)
    have h98 := hI 98 (by omega)
    have hK' : j = y 98 → ∀ f q : Row, X G mX10_passOne Q 40 [some (aR (some 361)), some (aI j)] [] (m3 I (mchN y j.toNat) f q, R, L, SH, x, 0, 0) := fun e => by rw [e]; exact hK
    generalize mchN y j.toNat = S at *
    refine B_X10_passOne_18 ?_
    try dsimp only
    try simp only [m3_z, u2_m3_z, Int.reduceToNat]
    refine ⟨sh361, _, hR.z, ?_⟩
    refine ⟨_, sh362, ⟨by omega, by omega⟩, ?_⟩
    try simp only [m3_z, u2_m3_z, Int.reduceToNat]
    refine ⟨fun c26_0 => ?_, fun c26_0 => ?_⟩
    · exact hK' (by omega) f q
    · refine ⟨⟨Nat.zero_le _, Nat.zero_le _, Nat.le_of_ble_eq_true rfl⟩, sh361, ?_⟩
      refine C_march hG hR hS.1 hS.2.1 hS.2.2.1 hS.2.2.2.2.1 (by omega) (fun f2 q2 => ?_)
      refine af_N0 rfl rfl rfl ?_
      try dsimp only
      try simp only [m3_z, u2_m3_z, Int.reduceToNat]
      refine B_X10_passOne_34 ?_
      try dsimp only
      try simp only [m3_z, u2_m3_z, Int.reduceToNat]
      refine ⟨by (refine ⟨?_, ?_⟩ <;> omega), ?_⟩
      have e := ih (j + 1) f2 q2 (by omega)
      rw [show (j + 1).toNat = j.toNat + 1 by omega, hs] at e
      exact e
theorem L_ps2 {G : amG} {I : Nat → Nat → Int} {R : Nat → Nat → Option Nat} {L : Nat → Nat → Int64} {x : Nat} {Q : amR → amH → Prop} (hG : amG0 G) (hR : RM R) {y f q : Row} (hb : wfB y) (hK : X G mX10_passOne Q 68 [some (aR (some 361)), some (aI (y 98))] [] (m3 I (setN y (y 98).toNat) f q, R, L, SH, x, 0, 0)) :
    ∀ (n : Nat) (j : Int), 0 ≤ j ∧ j ≤ y 98 ∧ y 98 - j < n → X G mX10_passOne Q 46 [some (aR (some 361)), some (aI j)] [] (m3 I (setN y j.toNat) f q, R, L, SH, x, 0, 0) := by
  intro n
  induction n with
  | zero =>
    intros
    exfalso; omega
  | succ n ih =>
    intro j h1
    have hn1 := hb.2.1.1
    have hn2 := hb.2.1.2
    have hs := setN_s y j.toNat
    obtain ⟨hS, hI, hJ⟩ := setN_inv hb j.toNat (by omega)
    have h98 := hI 98 (by omega)
    have hK' : j = y 98 → X G mX10_passOne Q 68 [some (aR (some 361)), some (aI j)] [] (m3 I (setN y j.toNat) f q, R, L, SH, x, 0, 0) := fun e => by rw [e]; exact hK
    generalize setN y j.toNat = S at *
    refine B_X10_passOne_46 ?_
    try dsimp only
    try simp only [m3_z, u2_m3_z, Int.reduceToNat]
    refine ⟨sh361, _, hR.z, ?_⟩
    refine ⟨_, sh362, ⟨by omega, by omega⟩, ?_⟩
    try simp only [m3_z, u2_m3_z, Int.reduceToNat]
    refine ⟨fun c54_0 => ?_, fun c54_0 => ?_⟩
    · exact hK' (by omega)
    · refine ⟨⟨Nat.zero_le _, Nat.zero_le _, Nat.le_of_ble_eq_true rfl⟩, sh361, ?_⟩
      refine C_settle hG hR hS.1 hS.2.1 hS.2.2.1 (by omega) ?_
      refine af_N0 rfl rfl rfl ?_
      try dsimp only
      try simp only [m3_z, u2_m3_z, Int.reduceToNat]
      refine B_X10_passOne_62 ?_
      try dsimp only
      try simp only [m3_z, u2_m3_z, Int.reduceToNat]
      refine ⟨by (refine ⟨?_, ?_⟩ <;> omega), ?_⟩
      have e := ih (j + 1) (by omega)
      rw [show (j + 1).toNat = j.toNat + 1 by omega, hs] at e
      exact e
theorem C_passOne {G : amG} {I : Nat → Nat → Int} {z f q : Row} {R : Nat → Nat → Option Nat} {L : Nat → Nat → Int64} {x c t : Nat} {Q : amR → amH → Prop} (hG : amG0 G) (hR : RM R) (hW : WF z) (hm : z 316 ≤ 1060) (hQ : ∀ f q : Row, Q (Sum.inl none) (m3 I (passZ z) f q, R, L, SH, x, 0, 0)) : CT G sX10_passOne [aR (some 361)] (m3 I z f q, R, L, SH, x, c, t) Q := by
  refine CT_of ok_X10_passOne hG (Nat.le_of_ble_eq_true rfl) ?_
  show X G mX10_passOne Q 0 _ [] (m3 I z f q, R, L, SH, x, 0, 0)
  have hn1 := hW.1.2.1.1
  have hn2 := hW.1.2.1.2
  have hC := hW.2.2
  unfold wfC at hC
  obtain ⟨b0, o0⟩ := tick_B hW
  obtain ⟨b1, o1⟩ := comeAll_B b0 o0
  obtain ⟨b2, o2, i2, t2, k2, l2⟩ := psA_inv hW
  have b3 := fightZ_B b2
  have e18 : uz z 316 (z 316 + 1) 318 = z 318 := uz_ne _ _ (by decide)
  have c1 := (comeAll_all (wfO_12 b0.2.1 o0) o0.1).1 98 (by omega) (by decide)
  have e98 : comeAllZ (uz z 316 (z 316 + 1)) 98 = z 98 := by rw [c1]; exact uz_ne _ _ (by decide)
  have e40 : mchN (comeAllZ (uz z 316 (z 316 + 1))) (comeAllZ (uz z 316 (z 316 + 1)) 98).toNat = psA z := by rw [e98]; rfl
  have j9 := i2 319 (by omega)
  have j0 := i2 320 (by omega)
  have j98 := i2 98 (by omega)
  have f98 : fightZ (psA z) 98 = z 98 := by rw [fightZ_off b2.2.1 b2.2.2.1 (by omega), j98]
  have e3 : setN (fightZ (psA z)) (fightZ (psA z) 98).toNat = passZ z := by rw [f98]; rfl
  refine B_X10_passOne_0 ?_
  try dsimp only
  try simp only [m3_z, u2_m3_z, Int.reduceToNat]
  refine ⟨sh361, _, hR.z, ?_⟩
  refine ⟨⟨rfl, rfl⟩, ?_⟩
  refine ⟨_, sh362, ⟨by omega, by omega⟩, ?_⟩
  try simp only [m3_z, u2_m3_z, Int.reduceToNat]
  refine ⟨by (refine ⟨?_, ?_⟩ <;> omega), ?_⟩
  refine ⟨_, sh362, ⟨by omega, by omega⟩, ?_⟩
  try simp only [m3_z, u2_m3_z, Int.reduceToNat]
  refine ⟨⟨Nat.zero_le _, Nat.zero_le _, Nat.le_of_ble_eq_true rfl⟩, sh361, ?_⟩
  refine C_comeAll hG hR (wfO_12 b0.2.1 o0) o0.1 (fun l hl => ?_) (by rw [e18]; omega) ?_
  · have := hC.2.2.2.2.2 l hl
    have e7 : tf (uz z 316 (z 316 + 1)) l 7 = tf z l 7 := tf_off (by omega) hl (by decide)
    omega
  refine af_N0 rfl rfl rfl ?_
  try dsimp only
  try simp only [m3_z, u2_m3_z, Int.reduceToNat]
  refine B_X10_passOne_16 ?_
  try dsimp only
  try simp only [m3_z, u2_m3_z, Int.reduceToNat]
  refine L_ps1 hG hR b1 (fun f2 q2 => ?_) 13 0 _ _ (by omega)
  rw [e40]
  refine B_X10_passOne_40 ?_
  try dsimp only
  try simp only [m3_z, u2_m3_z, Int.reduceToNat]
  refine ⟨⟨Nat.zero_le _, Nat.zero_le _, Nat.le_of_ble_eq_true rfl⟩, sh361, ?_⟩
  refine C_fight hG hR b2.1 b2.2.1 b2.2.2.1 (by omega) ?_
  refine af_N0 rfl rfl rfl ?_
  try dsimp only
  try simp only [m3_z, u2_m3_z, Int.reduceToNat]
  refine B_X10_passOne_44 ?_
  try dsimp only
  try simp only [m3_z, u2_m3_z, Int.reduceToNat]
  refine L_ps2 hG hR b3 ?_ 13 0 (by omega)
  rw [e3]
  refine B_X10_passOne_68 ?_
  try dsimp only
  refine ⟨rfl, ?_⟩
  exact hQ f2 q2
