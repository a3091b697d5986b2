/-! ===== the model: orders come ===== -/
def comeZ (z : Row) (k : Nat) (v : Int) : Row :=
  if z (99 + 8 * k + 4) = 0 then uz (uz z (99 + 8 * k + 3) v) (99 + 8 * k + 7) (z (99 + 8 * k + 7) + 1) else uz z 318 (z 318 + 1)
theorem C_come {G : amG} {I : Nat → Nat → Int} {z f q : Row} {R : Nat → Nat → Option Nat} {L : Nat → Nat → Int64} {x c t : Nat} {Q : amR → amH → Prop} (hG : amG0 G) (hR : RM R) {k v : Int} (hk : 0 ≤ k ∧ k < 12) (hc : 0 ≤ z (99 + 8 * k.toNat + 7) ∧ z (99 + 8 * k.toNat + 7) ≤ 1000000) (hm : 0 ≤ z 318 ∧ z 318 ≤ 1000000) (hQ : Q (Sum.inl none) (m3 I (comeZ z k.toNat v) f q, R, L, SH, x, 0, 0)) : CT G sX10_come [aR (some 361), aI k, aI v] (m3 I z f q, R, L, SH, x, c, t) Q := by
  refine CT_of ok_X10_come hG (Nat.le_of_ble_eq_true rfl) ?_
  show X G mX10_come Q 0 _ [] (m3 I z f q, R, L, SH, x, 0, 0)
  refine B_X10_come_0 ?_
  try dsimp only
  try simp (disch := omega) only [m3_z, m3_f, m3_q, u2_m3_z, u2_m3_f, u2_m3_q, uz_ne, uz_same, Int.reduceToNat]
  refine ⟨⟨Nat.zero_le _, Nat.zero_le _, Nat.le_of_ble_eq_true rfl⟩, sh361, ?_⟩
  refine C_of hG hR (by omega) (by decide) (fun r hr => ?_)
  try simp (disch := omega) only [m3_z, Int.reduceToNat, uz_ne, uz_same] at hr
  subst hr
  refine af_I0 rfl rfl (by decide) ?_
  try dsimp only
  try simp (disch := omega) only [m3_z, m3_f, m3_q, u2_m3_z, u2_m3_f, u2_m3_q, uz_ne, uz_same, Int.reduceToNat]
  refine B_X10_come_6 ?_
  try dsimp only
  try simp (disch := omega) only [m3_z, m3_f, m3_q, u2_m3_z, u2_m3_f, u2_m3_q, uz_ne, uz_same, Int.reduceToNat]
  refine ⟨fun c6_1 => ?_, fun c6_1 => ?_⟩
  · refine B_X10_come_35 ?_
    try dsimp only
    try simp (disch := omega) only [m3_z, m3_f, m3_q, u2_m3_z, u2_m3_f, u2_m3_q, uz_ne, uz_same, Int.reduceToNat]
    refine ⟨sh361, _, hR.z, ?_⟩
    refine ⟨⟨rfl, rfl⟩, ?_⟩
    refine ⟨_, sh362, ⟨by omega, by omega⟩, ?_⟩
    try simp (disch := omega) only [m3_z, m3_f, m3_q, u2_m3_z, u2_m3_f, u2_m3_q, uz_ne, uz_same, Int.reduceToNat]
    refine ⟨by (refine ⟨?_, ?_⟩ <;> omega), ?_⟩
    refine ⟨_, sh362, ⟨by omega, by omega⟩, ?_⟩
    try simp (disch := omega) only [m3_z, m3_f, m3_q, u2_m3_z, u2_m3_f, u2_m3_q, uz_ne, uz_same, Int.reduceToNat]
    refine B_X10_come_47 ?_
    try dsimp only
    try simp (disch := omega) only [m3_z, m3_f, m3_q, u2_m3_z, u2_m3_f, u2_m3_q, uz_ne, uz_same, Int.reduceToNat]
    refine ⟨rfl, ?_⟩
    have hQ := hQ
    unfold comeZ at hQ
    first
      | (rw [if_pos (by omega)] at hQ; exact hQ)
      | (rw [if_neg (by omega)] at hQ; exact hQ)
  · refine ⟨⟨Nat.zero_le _, Nat.zero_le _, Nat.le_of_ble_eq_true rfl⟩, sh361, ?_⟩
    refine C_lay hG hR (by omega) (by decide) ?_
    refine af_N0 rfl rfl rfl ?_
    try dsimp only
    try simp (disch := omega) only [m3_z, m3_f, m3_q, u2_m3_z, u2_m3_f, u2_m3_q, uz_ne, uz_same, Int.reduceToNat]
    refine B_X10_come_16 ?_
    try dsimp only
    try simp (disch := omega) only [m3_z, m3_f, m3_q, u2_m3_z, u2_m3_f, u2_m3_q, uz_ne, uz_same, Int.reduceToNat]
    refine ⟨⟨Nat.zero_le _, Nat.zero_le _, Nat.le_of_ble_eq_true rfl⟩, sh361, ?_⟩
    refine C_of hG hR (by omega) (by decide) (fun r hr => ?_)
    try simp (disch := omega) only [m3_z, Int.reduceToNat, uz_ne, uz_same] at hr
    subst hr
    refine af_I0 rfl rfl (by decide) ?_
    try dsimp only
    try simp (disch := omega) only [m3_z, m3_f, m3_q, u2_m3_z, u2_m3_f, u2_m3_q, uz_ne, uz_same, Int.reduceToNat]
    refine B_X10_come_27 ?_
    try dsimp only
    try simp (disch := omega) only [m3_z, m3_f, m3_q, u2_m3_z, u2_m3_f, u2_m3_q, uz_ne, uz_same, Int.reduceToNat]
    refine ⟨by (refine ⟨?_, ?_⟩ <;> omega), ?_⟩
    refine ⟨⟨Nat.zero_le _, Nat.zero_le _, Nat.le_of_ble_eq_true rfl⟩, sh361, ?_⟩
    refine C_lay hG hR (by omega) (by decide) ?_
    refine af_N0 rfl rfl rfl ?_
    try dsimp only
    try simp (disch := omega) only [m3_z, m3_f, m3_q, u2_m3_z, u2_m3_f, u2_m3_q, uz_ne, uz_same, Int.reduceToNat]
    refine B_X10_come_32 ?_
    try dsimp only
    try simp (disch := omega) only [m3_z, m3_f, m3_q, u2_m3_z, u2_m3_f, u2_m3_q, uz_ne, uz_same, Int.reduceToNat]
    refine B_X10_come_47 ?_
    try dsimp only
    try simp (disch := omega) only [m3_z, m3_f, m3_q, u2_m3_z, u2_m3_f, u2_m3_q, uz_ne, uz_same, Int.reduceToNat]
    refine ⟨rfl, ?_⟩
    have hQ := hQ
    unfold comeZ at hQ
    first
      | (rw [if_pos (by omega)] at hQ; exact hQ)
      | (rw [if_neg (by omega)] at hQ; exact hQ)
