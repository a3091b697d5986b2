/-! ===== the model: fight ===== -/
def fightZ (z : Row) : Row := fB (fA z (z 98).toNat) (z 98).toNat
theorem L_fightB {G : amG} {I : Nat → Nat → Int} {R : Nat → Nat → Option Nat} {L : Nat → Nat → Int64} {x : Nat} {Q : amR → amH → Prop} (hG : amG0 G) (hR : RM R) {y f q : Row} (hn : wfN y) (ht : wfT y) (hl : (0 ≤ y 319 ∧ y 319 ≤ 1000000) ∧ 0 ≤ y 320 ∧ y 320 ≤ 1000000) (hQ : Q (Sum.inl none) (m3 I (fB y (y 98).toNat) f q, R, L, SH, x, 0, 0)) :
    ∀ (n : Nat) (j : Int), 0 ≤ j ∧ j ≤ y 98 ∧ y 98 - j < n → X G mX10_fight Q 45 [some (aR (some 361)), some (aI j)] [] (m3 I (fB y j.toNat) f q, R, L, SH, x, 0, 0) := by
  intro n
  induction n with
  | zero =>
    intros
    exfalso; omega
  | succ n ih =>
    intro j h1
    have hn1 := hn.1
    have hn2 := hn.2
    have hs := fB_s y j.toNat
    have hI := fB_inv (y := y) j.toNat (by omega) (fun l hl => ⟨(ht l (by omega)).1, (ht l (by omega)).2.2.2.2.2.2.1⟩)
    have h98 := hI.1 98 (Or.inl (by decide))
    have hi3 := hI.2.2
    have g0 : j < y 98 → (0 ≤ fB y j.toNat (99 + 8 * j.toNat + 0) ∧ fB y j.toNat (99 + 8 * j.toNat + 0) ≤ 1) ∧ (0 ≤ fB y j.toNat (99 + 8 * j.toNat + 2) ∧ fB y j.toNat (99 + 8 * j.toNat + 2) ≤ 20) ∧ (0 ≤ fB y j.toNat (99 + 8 * j.toNat + 6) ∧ fB y j.toNat (99 + 8 * j.toNat + 6) ≤ 20) := fun hj => by
      have a0 := hI.2.1 j.toNat 0 (by omega) (by decide)
      rw [if_neg (by omega), if_neg (by omega)] at a0
      have a2 := hI.2.1 j.toNat 2 (by omega) (by decide)
      rw [if_neg (by omega), if_neg (by omega)] at a2
      have a6 := hI.2.1 j.toNat 6 (by omega) (by decide)
      rw [if_neg (by omega), if_neg (by omega)] at a6
      have hT := ht j.toNat (by omega)
      unfold wfT1 at hT
      rw [← a0, ← a2, ← a6] at hT
      exact ⟨hT.1, hT.2.2.1, hT.2.2.2.2.2.2.1⟩
    clear hI
    generalize hww : fB y j.toNat = w at *
    refine B_X10_fight_45 ?_
    try dsimp only
    try simp (disch := omega) only [m3_z, m3_f, m3_q, u2_m3_z, u2_m3_f, u2_m3_q, uz_ne, uz_same, Int.reduceToNat]
    refine ⟨sh361, _, hR.z, ?_⟩
    refine ⟨_, sh362, ⟨by omega, by omega⟩, ?_⟩
    try simp (disch := omega) only [m3_z, m3_f, m3_q, u2_m3_z, u2_m3_f, u2_m3_q, uz_ne, uz_same, Int.reduceToNat]
    refine ⟨fun c53_0 => ?_, fun c53_0 => ?_⟩
    · refine B_X10_fight_132 ?_
      try dsimp only
      try simp (disch := omega) only [m3_z, m3_f, m3_q, u2_m3_z, u2_m3_f, u2_m3_q, uz_ne, uz_same, Int.reduceToNat]
      refine ⟨rfl, ?_⟩
      have e : j = y 98 := by omega
      rw [e] at hww
      rw [← hww]
      exact hQ
    · have g1 := g0 (by omega)
      have g2 : 0 ≤ w (319 + w (99 + 8 * j.toNat + 0)).toNat ∧ w (319 + w (99 + 8 * j.toNat + 0)).toNat ≤ 2000000 := by
        rcases (by omega : w (99 + 8 * j.toNat + 0) = 0 ∨ w (99 + 8 * j.toNat + 0) = 1) with e | e
        · rw [e]; show 0 ≤ w 319 ∧ w 319 ≤ 2000000; omega
        · rw [e]; show 0 ≤ w 320 ∧ w 320 ≤ 2000000; omega
      refine ⟨⟨Nat.zero_le _, Nat.zero_le _, Nat.le_of_ble_eq_true rfl⟩, sh361, ?_⟩
      refine C_of hG hR (by omega) (by decide) (fun r hr => ?_)
      try simp (disch := omega) only [m3_z, Int.reduceToNat, uz_ne, uz_same] at hr
      subst hr
      refine af_I0 rfl rfl (by decide) ?_
      try dsimp only
      try simp (disch := omega) only [m3_z, m3_f, m3_q, u2_m3_z, u2_m3_f, u2_m3_q, uz_ne, uz_same, Int.reduceToNat]
      refine B_X10_fight_65 ?_
      try dsimp only
      try simp (disch := omega) only [m3_z, m3_f, m3_q, u2_m3_z, u2_m3_f, u2_m3_q, uz_ne, uz_same, Int.reduceToNat]
      refine ⟨⟨Nat.zero_le _, Nat.zero_le _, Nat.le_of_ble_eq_true rfl⟩, sh361, ?_⟩
      refine C_of hG hR (by omega) (by decide) (fun r hr => ?_)
      try simp (disch := omega) only [m3_z, Int.reduceToNat, uz_ne, uz_same] at hr
      subst hr
      refine af_I0 rfl rfl (by decide) ?_
      try dsimp only
      try simp (disch := omega) only [m3_z, m3_f, m3_q, u2_m3_z, u2_m3_f, u2_m3_q, uz_ne, uz_same, Int.reduceToNat]
      refine B_X10_fight_72 ?_
      try dsimp only
      try simp (disch := omega) only [m3_z, m3_f, m3_q, u2_m3_z, u2_m3_f, u2_m3_q, uz_ne, uz_same, Int.reduceToNat]
      refine ⟨by (refine ⟨?_, ?_⟩ <;> omega), ?_⟩
      refine ⟨⟨Nat.zero_le _, Nat.zero_le _, Nat.le_of_ble_eq_true rfl⟩, sh361, ?_⟩
      refine C_lay hG hR (by omega) (by decide) ?_
      refine af_N0 rfl rfl rfl ?_
      try dsimp only
      try simp (disch := omega) only [m3_z, m3_f, m3_q, u2_m3_z, u2_m3_f, u2_m3_q, uz_ne, uz_same, Int.reduceToNat]
      refine B_X10_fight_76 ?_
      try dsimp only
      try simp (disch := omega) only [m3_z, m3_f, m3_q, u2_m3_z, u2_m3_f, u2_m3_q, uz_ne, uz_same, Int.reduceToNat]
      refine ⟨sh361, _, hR.z, ?_⟩
      refine ⟨⟨Nat.zero_le _, Nat.zero_le _, Nat.le_of_ble_eq_true rfl⟩, sh361, ?_⟩
      refine C_of hG hR (by omega) (by decide) (fun r hr => ?_)
      try simp (disch := omega) only [m3_z, Int.reduceToNat, uz_ne, uz_same] at hr
      subst hr
      refine af_I0 rfl rfl (by decide) ?_
      try dsimp only
      try simp (disch := omega) only [m3_z, m3_f, m3_q, u2_m3_z, u2_m3_f, u2_m3_q, uz_ne, uz_same, Int.reduceToNat]
      refine B_X10_fight_89 ?_
      try dsimp only
      try simp (disch := omega) only [m3_z, m3_f, m3_q, u2_m3_z, u2_m3_f, u2_m3_q, uz_ne, uz_same, Int.reduceToNat]
      refine ⟨by (refine ⟨?_, ?_⟩ <;> omega), ?_⟩
      refine ⟨⟨rfl, rfl⟩, ?_⟩
      refine ⟨_, (by first | exact sh362 | exact sh365 | exact sh366 | exact sh363 | exact sh364 | exact sh367 | exact sh368), ⟨by omega, by omega⟩, ?_⟩
      try simp (disch := omega) only [m3_z, m3_f, m3_q, u2_m3_z, u2_m3_f, u2_m3_q, uz_ne, uz_same, Int.reduceToNat]
      refine ⟨⟨Nat.zero_le _, Nat.zero_le _, Nat.le_of_ble_eq_true rfl⟩, sh361, ?_⟩
      refine C_of hG hR (by omega) (by decide) (fun r hr => ?_)
      try simp (disch := omega) only [m3_z, Int.reduceToNat, uz_ne, uz_same] at hr
      subst hr
      refine af_I0 rfl rfl (by decide) ?_
      try dsimp only
      try simp (disch := omega) only [m3_z, m3_f, m3_q, u2_m3_z, u2_m3_f, u2_m3_q, uz_ne, uz_same, Int.reduceToNat]
      refine B_X10_fight_99 ?_
      try dsimp only
      try simp (disch := omega) only [m3_z, m3_f, m3_q, u2_m3_z, u2_m3_f, u2_m3_q, uz_ne, uz_same, Int.reduceToNat]
      refine ⟨by (refine ⟨?_, ?_⟩ <;> omega), ?_⟩
      refine ⟨_, (by first | exact sh362 | exact sh365 | exact sh366 | exact sh363 | exact sh364 | exact sh367 | exact sh368), ⟨by omega, by omega⟩, ?_⟩
      try simp (disch := omega) only [m3_z, m3_f, m3_q, u2_m3_z, u2_m3_f, u2_m3_q, uz_ne, uz_same, Int.reduceToNat]
      refine ⟨⟨Nat.zero_le _, Nat.zero_le _, Nat.le_of_ble_eq_true rfl⟩, sh361, ?_⟩
      refine C_of hG hR (by omega) (by decide) (fun r hr => ?_)
      try simp (disch := omega) only [m3_z, Int.reduceToNat, uz_ne, uz_same] at hr
      subst hr
      refine af_I0 rfl rfl (by decide) ?_
      try dsimp only
      try simp (disch := omega) only [m3_z, m3_f, m3_q, u2_m3_z, u2_m3_f, u2_m3_q, uz_ne, uz_same, Int.reduceToNat]
      refine B_X10_fight_110 ?_
      try dsimp only
      try simp (disch := omega) only [m3_z, m3_f, m3_q, u2_m3_z, u2_m3_f, u2_m3_q, uz_ne, uz_same, Int.reduceToNat]
      refine ⟨fun c110_6 => ?_, fun c110_6 => ?_⟩
      · refine B_X10_fight_117 ?_
        try dsimp only
        try simp (disch := omega) only [m3_z, m3_f, m3_q, u2_m3_z, u2_m3_f, u2_m3_q, uz_ne, uz_same, Int.reduceToNat]
        refine ⟨⟨Nat.zero_le _, Nat.zero_le _, Nat.le_of_ble_eq_true rfl⟩, sh361, ?_⟩
        refine C_of hG hR (by omega) (by decide) (fun r hr => ?_)
        try simp (disch := omega) only [m3_z, Int.reduceToNat, uz_ne, uz_same] at hr
        subst hr
        refine af_I0 rfl rfl (by decide) ?_
        try dsimp only
        try simp (disch := omega) only [m3_z, m3_f, m3_q, u2_m3_z, u2_m3_f, u2_m3_q, uz_ne, uz_same, Int.reduceToNat]
        refine B_X10_fight_123 ?_
        try dsimp only
        try simp (disch := omega) only [m3_z, m3_f, m3_q, u2_m3_z, u2_m3_f, u2_m3_q, uz_ne, uz_same, Int.reduceToNat]
        refine ⟨⟨Nat.zero_le _, Nat.zero_le _, Nat.le_of_ble_eq_true rfl⟩, sh361, ?_⟩
        refine C_lay hG hR (by omega) (by decide) ?_
        refine af_N0 rfl rfl rfl ?_
        try dsimp only
        try simp (disch := omega) only [m3_z, m3_f, m3_q, u2_m3_z, u2_m3_f, u2_m3_q, uz_ne, uz_same, Int.reduceToNat]
        refine B_X10_fight_126 ?_
        try dsimp only
        try simp (disch := omega) only [m3_z, m3_f, m3_q, u2_m3_z, u2_m3_f, u2_m3_q, uz_ne, uz_same, Int.reduceToNat]
        refine ⟨by (refine ⟨?_, ?_⟩ <;> omega), ?_⟩
        have e := ih (j + 1) (by omega)
        rw [show (j + 1).toNat = j.toNat + 1 by omega, hs] at e
        unfold fB1 at e
        first
          | (rw [if_pos (by omega)] at e; exact e)
          | (rw [if_neg (by omega)] at e; exact e)
      · refine B_X10_fight_123 ?_
        try dsimp only
        try simp (disch := omega) only [m3_z, m3_f, m3_q, u2_m3_z, u2_m3_f, u2_m3_q, uz_ne, uz_same, Int.reduceToNat]
        refine ⟨⟨Nat.zero_le _, Nat.zero_le _, Nat.le_of_ble_eq_true rfl⟩, sh361, ?_⟩
        refine C_lay hG hR (by omega) (by decide) ?_
        refine af_N0 rfl rfl rfl ?_
        try dsimp only
        try simp (disch := omega) only [m3_z, m3_f, m3_q, u2_m3_z, u2_m3_f, u2_m3_q, uz_ne, uz_same, Int.reduceToNat]
        refine B_X10_fight_126 ?_
        try dsimp only
        try simp (disch := omega) only [m3_z, m3_f, m3_q, u2_m3_z, u2_m3_f, u2_m3_q, uz_ne, uz_same, Int.reduceToNat]
        refine ⟨by (refine ⟨?_, ?_⟩ <;> omega), ?_⟩
        have e := ih (j + 1) (by omega)
        rw [show (j + 1).toNat = j.toNat + 1 by omega, hs] at e
        unfold fB1 at e
        first
          | (rw [if_pos (by omega)] at e; exact e)
          | (rw [if_neg (by omega)] at e; exact e)
theorem C_fight {G : amG} {I : Nat → Nat → Int} {z f q : Row} {R : Nat → Nat → Option Nat} {L : Nat → Nat → Int64} {x c t : Nat} {Q : amR → amH → Prop} (hG : amG0 G) (hR : RM R) (hh : wfH z) (hn : wfN z) (ht : wfT z) (hl : (0 ≤ z 319 ∧ z 319 ≤ 1000000) ∧ 0 ≤ z 320 ∧ z 320 ≤ 1000000) (hQ : Q (Sum.inl none) (m3 I (fightZ z) f q, R, L, SH, x, 0, 0)) : CT G sX10_fight [aR (some 361)] (m3 I z f q, R, L, SH, x, c, t) Q := by
  refine CT_of ok_X10_fight hG (Nat.le_of_ble_eq_true rfl) ?_
  show X G mX10_fight Q 0 _ [] (m3 I z f q, R, L, SH, x, 0, 0)
  refine B_X10_fight_0 ?_
  try dsimp only
  try simp (disch := omega) only [m3_z, m3_f, m3_q, u2_m3_z, u2_m3_f, u2_m3_q, uz_ne, uz_same, Int.reduceToNat]
  refine L_fightA hG hR hh hn ht ?_ 13 0 (by have := hn.1; have := hn.2; omega)
  refine B_X10_fight_43 ?_
  try dsimp only
  have h98 := fA_N (z := z) (z 98).toNat
  have a1 := (fA_inv (z := z) (z 98).toNat).1 319 (Or.inr (by have := hn.2; omega))
  have a2 := (fA_inv (z := z) (z 98).toNat).1 320 (Or.inr (by have := hn.2; omega))
  refine L_fightB hG hR (y := fA z (z 98).toNat) (by unfold wfN; rw [h98]; exact hn) (fA_T ht hn _) (by rw [a1, a2]; exact hl) (by rw [h98]; exact hQ) 13 0 (by rw [h98]; have := hn.1; have := hn.2; omega)
