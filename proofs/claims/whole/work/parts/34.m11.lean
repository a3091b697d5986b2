/-! ===== the model: routed troops become steady ===== -/
/-- 1 if one of the first n troops is an enemy of troop k, not gone, and seen -/
def seN (z : Row) (k : Nat) : Nat → Int
  | 0 => 0
  | n + 1 => if seN z k n = 1 ∨ (tf z n 4 ≠ 2 ∧ tf z n 0 ≠ tf z k 0 ∧ seeI z (tf z k 1) (tf z n 1) = 1) then 1 else 0
theorem seN_b (z : Row) (k n : Nat) : seN z k n = 0 ∨ seN z k n = 1 := by
  cases n with
  | zero => exact Or.inl rfl
  | succ n => unfold seN; split; exact Or.inr rfl; exact Or.inl rfl
def settZ (z : Row) (k : Nat) : Row :=
  if tf z k 4 = 0 ∧ 0 < tf z k 6 ∧ 2 * tf z k 2 ≤ tf z k 5 then uz z (99 + 8 * k + 4) 1
  else if tf z k 4 = 1 ∧ tf z k 6 = 0 ∧ seN z k (z 98).toNat = 0 then uz (uz z (99 + 8 * k + 4) 0) (99 + 8 * k + 3) (tf z k 1) else z
theorem L_seesEnemy {G : amG} {I : Nat → Nat → Int} {R : Nat → Nat → Option Nat} {L : Nat → Nat → Int64} {x : Nat} {Q : amR → amH → Prop} (hG : amG0 G) (hR : RM R) (hh : wfH (I 362)) (hn : wfN (I 362)) (ht : wfT (I 362)) {k : Int} (hk : 0 ≤ k ∧ k < I 362 98) (hQ : ∀ r : Int, r = seN (I 362) k.toNat (I 362 98).toNat → Q (Sum.inl (some (aI r))) (I, R, L, SH, x, 0, 0)) :
    ∀ (n : Nat) (j s : Int), 0 ≤ j ∧ j ≤ I 362 98 ∧ I 362 98 - j < n → s = seN (I 362) k.toNat j.toNat → X G mX10_seesEnemy Q 4 [some (aR (some 361)), some (aI k), some (aI s), some (aI j)] [] (I, R, L, SH, x, 0, 0) := by
  intro n
  induction n with
  | zero =>
    intros
    exfalso; omega
  | succ n ih =>
    intro j s h1 hs
    have hb := seN_b (I 362) k.toNat j.toNat
    have hn1 := hn.1
    have hn2 := hn.2
    have hk1 : isC (tf (I 362) k.toNat 1) := by have := (ht k.toNat (by omega)).2.1; unfold isC; omega
    have hj1 : j < I 362 98 → isC (tf (I 362) j.toNat 1) := fun q => by have := (ht j.toNat (by omega)).2.1; unfold isC; omega
    refine B_X10_seesEnemy_4 ?_
    try dsimp only
    refine ⟨sh361, _, hR.z, ?_⟩
    refine ⟨_, sh362, ⟨by omega, by omega⟩, ?_⟩
    refine ⟨fun c12_0 => ?_, fun c12_0 => ?_⟩
    · refine B_X10_seesEnemy_73 ?_
      try dsimp only
      refine ⟨by first | exact Or.inl rfl | exact Or.inr rfl | omega, ?_⟩
      refine hQ _ ?_
      rw [hs]
      congr 1
      omega
    · refine ⟨fun c16_0 => ?_, fun c16_0 => ?_⟩
      · refine B_X10_seesEnemy_61 ?_
        try dsimp only
        refine B_X10_seesEnemy_66 ?_
        try dsimp only
        refine ⟨by (refine ⟨?_, ?_⟩ <;> omega), ?_⟩
        refine ih (j + 1) _ (by omega) ?_
        rw [show (j + 1).toNat = j.toNat + 1 by omega]
        unfold seN
        first | (rw [if_pos (Or.inl (by omega))]; done) | (rw [if_pos (Or.inr ⟨by omega, by omega, by omega⟩)]; done) | (rw [if_neg (by omega)]; done) | (exfalso; omega)
      · refine ⟨⟨Nat.zero_le _, Nat.zero_le _, Nat.le_of_ble_eq_true rfl⟩, sh361, ?_⟩
        refine C_isGone hG hR (by omega) (fun r0 hr0 => ?_)
        refine af_I0 rfl rfl (by decide) ?_
        try dsimp only
        refine B_X10_seesEnemy_24 ?_
        try dsimp only
        refine ⟨fun c24_1 => ?_, fun c24_1 => ?_⟩
        · refine B_X10_seesEnemy_65 ?_
          try dsimp only
          refine B_X10_seesEnemy_66 ?_
          try dsimp only
          refine ⟨by (refine ⟨?_, ?_⟩ <;> omega), ?_⟩
          refine ih (j + 1) _ (by omega) ?_
          rw [show (j + 1).toNat = j.toNat + 1 by omega]
          unfold seN
          first | (rw [if_pos (Or.inl (by omega))]; done) | (rw [if_pos (Or.inr ⟨by omega, by omega, by omega⟩)]; done) | (rw [if_neg (by omega)]; done) | (exfalso; omega)
        · refine ⟨⟨Nat.zero_le _, Nat.zero_le _, Nat.le_of_ble_eq_true rfl⟩, sh361, ?_⟩
          refine C_of hG hR (by omega) (by decide) (fun r hr => ?_)
          have hr : r = tf (I 362) j.toNat 0 := hr
          subst hr
          refine af_I0 rfl rfl (by decide) ?_
          try dsimp only
          refine B_X10_seesEnemy_33 ?_
          try dsimp only
          refine ⟨⟨Nat.zero_le _, Nat.zero_le _, Nat.le_of_ble_eq_true rfl⟩, sh361, ?_⟩
          refine C_of hG hR (by omega) (by decide) (fun r hr => ?_)
          have hr : r = tf (I 362) k.toNat 0 := hr
          subst hr
          refine af_I0 rfl rfl (by decide) ?_
          try dsimp only
          refine B_X10_seesEnemy_39 ?_
          try dsimp only
          refine ⟨fun c39_3 => ?_, fun c39_3 => ?_⟩
          · refine B_X10_seesEnemy_65 ?_
            try dsimp only
            refine B_X10_seesEnemy_66 ?_
            try dsimp only
            refine ⟨by (refine ⟨?_, ?_⟩ <;> omega), ?_⟩
            refine ih (j + 1) _ (by omega) ?_
            rw [show (j + 1).toNat = j.toNat + 1 by omega]
            unfold seN
            first | (rw [if_pos (Or.inl (by omega))]; done) | (rw [if_pos (Or.inr ⟨by omega, by omega, by omega⟩)]; done) | (rw [if_neg (by omega)]; done) | (exfalso; omega)
          · refine ⟨⟨Nat.zero_le _, Nat.zero_le _, Nat.le_of_ble_eq_true rfl⟩, sh361, ?_⟩
            refine C_of hG hR (by omega) (by decide) (fun r hr => ?_)
            have hr : r = tf (I 362) k.toNat 1 := hr
            subst hr
            refine af_I0 rfl rfl (by decide) ?_
            try dsimp only
            refine B_X10_seesEnemy_49 ?_
            try dsimp only
            refine ⟨⟨Nat.zero_le _, Nat.zero_le _, Nat.le_of_ble_eq_true rfl⟩, sh361, ?_⟩
            refine C_of hG hR (by omega) (by decide) (fun r hr => ?_)
            have hr : r = tf (I 362) j.toNat 1 := hr
            subst hr
            refine af_I0 rfl rfl (by decide) ?_
            try dsimp only
            refine B_X10_seesEnemy_55 ?_
            try dsimp only
            refine ⟨⟨Nat.zero_le _, Nat.zero_le _, Nat.le_of_ble_eq_true rfl⟩, sh361, ?_⟩
            have hjj := hj1 (by omega)
            have hsI := seeI_is (I 362) (tf (I 362) k.toNat 1) (tf (I 362) j.toNat 1)
            refine C_isSeen hG hR hh hk1 hjj (fun r5 hr5 => ?_)
            have hr6 : (seeI (I 362) (tf (I 362) k.toNat 1) (tf (I 362) j.toNat 1) = 1 ∧ r5 = 1) ∨ (seeI (I 362) (tf (I 362) k.toNat 1) (tf (I 362) j.toNat 1) = 0 ∧ r5 = 0) := hr5.imp (fun q => ⟨seeI_one q.1, q.2⟩) (fun q => ⟨seeI_zero q.1, q.2⟩)
            refine af_I0 rfl rfl (by decide) ?_
            try dsimp only
            refine B_X10_seesEnemy_58 ?_
            try dsimp only
            refine ⟨fun c58_6 => ?_, fun c58_6 => ?_⟩
            · refine B_X10_seesEnemy_65 ?_
              try dsimp only
              refine B_X10_seesEnemy_66 ?_
              try dsimp only
              refine ⟨by (refine ⟨?_, ?_⟩ <;> omega), ?_⟩
              refine ih (j + 1) _ (by omega) ?_
              rw [show (j + 1).toNat = j.toNat + 1 by omega]
              unfold seN
              first | (rw [if_pos (Or.inl (by omega))]; done) | (rw [if_pos (Or.inr ⟨by omega, by omega, by omega⟩)]; done) | (rw [if_neg (by omega)]; done) | (exfalso; omega)
            · refine B_X10_seesEnemy_61 ?_
              try dsimp only
              refine B_X10_seesEnemy_66 ?_
              try dsimp only
              refine ⟨by (refine ⟨?_, ?_⟩ <;> omega), ?_⟩
              refine ih (j + 1) _ (by omega) ?_
              rw [show (j + 1).toNat = j.toNat + 1 by omega]
              unfold seN
              first | (rw [if_pos (Or.inl (by omega))]; done) | (rw [if_pos (Or.inr ⟨by omega, by omega, by omega⟩)]; done) | (rw [if_neg (by omega)]; done) | (exfalso; omega)
theorem C_seesEnemy {G : amG} {I : Nat → Nat → Int} {R : Nat → Nat → Option Nat} {L : Nat → Nat → Int64} {x c t : Nat} {Q : amR → amH → Prop} (hG : amG0 G) (hR : RM R) (hh : wfH (I 362)) (hn : wfN (I 362)) (ht : wfT (I 362)) {k : Int} (hk : 0 ≤ k ∧ k < I 362 98) (hQ : ∀ r : Int, r = seN (I 362) k.toNat (I 362 98).toNat → Q (Sum.inl (some (aI r))) (I, R, L, SH, x, 0, 0)) : CT G sX10_seesEnemy [aR (some 361), aI k] (I, R, L, SH, x, c, t) Q := by
  refine CT_of ok_X10_seesEnemy hG (Nat.le_of_ble_eq_true rfl) ?_
  show X G mX10_seesEnemy Q 0 _ [] (I, R, L, SH, x, 0, 0)
  refine B_X10_seesEnemy_0 ?_
  try dsimp only
  exact L_seesEnemy hG hR hh hn ht hk hQ 13 0 0 (by have := hn.1; have := hn.2; omega) rfl
theorem C_settle {G : amG} {I : Nat → Nat → Int} {z f q : Row} {R : Nat → Nat → Option Nat} {L : Nat → Nat → Int64} {x c t : Nat} {Q : amR → amH → Prop} (hG : amG0 G) (hR : RM R) (hh : wfH z) (hn : wfN z) (ht : wfT z) {k : Int} (hk : 0 ≤ k ∧ k < z 98) (hQ : Q (Sum.inl none) (m3 I (settZ z k.toNat) f q, R, L, SH, x, 0, 0)) : CT G sX10_settle [aR (some 361), aI k] (m3 I z f q, R, L, SH, x, c, t) Q := by
  refine CT_of ok_X10_settle hG (Nat.le_of_ble_eq_true rfl) ?_
  show X G mX10_settle Q 0 _ [] (m3 I z f q, R, L, SH, x, 0, 0)
  have hn1 := hn.1
  have hn2 := hn.2
  have hh' : wfH (m3 I z f q 362) := hh
  have hn' : wfN (m3 I z f q 362) := hn
  have ht' : wfT (m3 I z f q 362) := ht
  have hT := ht k.toNat (by omega)
  unfold wfT1 tf at hT
  refine B_X10_settle_0 ?_
  try dsimp only
  try simp (disch := omega) only [m3_z, m3_f, m3_q, u2_m3_z, u2_m3_f, u2_m3_q, uz_ne, uz_same, Int.reduceToNat]
  refine ⟨⟨Nat.zero_le _, Nat.zero_le _, Nat.le_of_ble_eq_true rfl⟩, sh361, ?_⟩
  refine C_of hG hR (by omega) (by decide) (fun r hr => ?_)
  try simp (disch := omega) only [m3_z, Int.reduceToNat, uz_ne, uz_same] at hr
  subst hr
  refine af_I0 rfl rfl (by decide) ?_
  try dsimp only
  try simp (disch := omega) only [m3_z, m3_f, m3_q, u2_m3_z, u2_m3_f, u2_m3_q, uz_ne, uz_same, Int.reduceToNat]
  refine B_X10_settle_6 ?_
  try dsimp only
  try simp (disch := omega) only [m3_z, m3_f, m3_q, u2_m3_z, u2_m3_f, u2_m3_q, uz_ne, uz_same, Int.reduceToNat]
  refine ⟨fun c6_1 => ?_, fun c6_1 => ?_⟩
  · refine B_X10_settle_46 ?_
    try dsimp only
    try simp (disch := omega) only [m3_z, m3_f, m3_q, u2_m3_z, u2_m3_f, u2_m3_q, uz_ne, uz_same, Int.reduceToNat]
    refine ⟨⟨Nat.zero_le _, Nat.zero_le _, Nat.le_of_ble_eq_true rfl⟩, sh361, ?_⟩
    refine C_of hG hR (by omega) (by decide) (fun r hr => ?_)
    try simp (disch := omega) only [m3_z, Int.reduceToNat, uz_ne, uz_same] at hr
    subst hr
    refine af_I0 rfl rfl (by decide) ?_
    try dsimp only
    try simp (disch := omega) only [m3_z, m3_f, m3_q, u2_m3_z, u2_m3_f, u2_m3_q, uz_ne, uz_same, Int.reduceToNat]
    refine B_X10_settle_52 ?_
    try dsimp only
    try simp (disch := omega) only [m3_z, m3_f, m3_q, u2_m3_z, u2_m3_f, u2_m3_q, uz_ne, uz_same, Int.reduceToNat]
    refine ⟨fun c53_3 => ?_, fun c53_3 => ?_⟩
    · refine B_X10_settle_93 ?_
      try dsimp only
      try simp (disch := omega) only [m3_z, m3_f, m3_q, u2_m3_z, u2_m3_f, u2_m3_q, uz_ne, uz_same, Int.reduceToNat]
      refine ⟨rfl, ?_⟩
      have hQ := hQ
      unfold settZ tf at hQ
      first
        | (rw [if_pos (by omega)] at hQ; exact hQ)
        | (rw [if_neg (by omega), if_pos (by omega)] at hQ; exact hQ)
        | (rw [if_neg (by omega), if_neg (by omega)] at hQ; exact hQ)
    · refine ⟨⟨Nat.zero_le _, Nat.zero_le _, Nat.le_of_ble_eq_true rfl⟩, sh361, ?_⟩
      refine C_of hG hR (by omega) (by decide) (fun r hr => ?_)
      try simp (disch := omega) only [m3_z, Int.reduceToNat, uz_ne, uz_same] at hr
      subst hr
      refine af_I0 rfl rfl (by decide) ?_
      try dsimp only
      try simp (disch := omega) only [m3_z, m3_f, m3_q, u2_m3_z, u2_m3_f, u2_m3_q, uz_ne, uz_same, Int.reduceToNat]
      refine B_X10_settle_63 ?_
      try dsimp only
      try simp (disch := omega) only [m3_z, m3_f, m3_q, u2_m3_z, u2_m3_f, u2_m3_q, uz_ne, uz_same, Int.reduceToNat]
      refine ⟨fun c63_4 => ?_, fun c63_4 => ?_⟩
      · refine B_X10_settle_93 ?_
        try dsimp only
        try simp (disch := omega) only [m3_z, m3_f, m3_q, u2_m3_z, u2_m3_f, u2_m3_q, uz_ne, uz_same, Int.reduceToNat]
        refine ⟨rfl, ?_⟩
        have hQ := hQ
        unfold settZ tf at hQ
        first
          | (rw [if_pos (by omega)] at hQ; exact hQ)
          | (rw [if_neg (by omega), if_pos (by omega)] at hQ; exact hQ)
          | (rw [if_neg (by omega), if_neg (by omega)] at hQ; exact hQ)
      · refine ⟨⟨Nat.zero_le _, Nat.zero_le _, Nat.le_of_ble_eq_true rfl⟩, sh361, ?_⟩
        refine C_seesEnemy hG hR hh' hn' ht' (k := k) hk (fun r9 hr9 => ?_)
        have hr9 : r9 = seN z k.toNat (z 98).toNat := hr9
        have hs9 := seN_b z k.toNat (z 98).toNat
        refine af_I0 rfl rfl (by decide) ?_
        try dsimp only
        try simp (disch := omega) only [m3_z, m3_f, m3_q, u2_m3_z, u2_m3_f, u2_m3_q, uz_ne, uz_same, Int.reduceToNat]
        refine B_X10_settle_71 ?_
        try dsimp only
        try simp (disch := omega) only [m3_z, m3_f, m3_q, u2_m3_z, u2_m3_f, u2_m3_q, uz_ne, uz_same, Int.reduceToNat]
        refine ⟨fun c71_5 => ?_, fun c71_5 => ?_⟩
        · refine B_X10_settle_93 ?_
          try dsimp only
          try simp (disch := omega) only [m3_z, m3_f, m3_q, u2_m3_z, u2_m3_f, u2_m3_q, uz_ne, uz_same, Int.reduceToNat]
          refine ⟨rfl, ?_⟩
          have hQ := hQ
          unfold settZ tf at hQ
          first
            | (rw [if_pos (by omega)] at hQ; exact hQ)
            | (rw [if_neg (by omega), if_pos (by omega)] at hQ; exact hQ)
            | (rw [if_neg (by omega), if_neg (by omega)] at hQ; exact hQ)
        · refine ⟨⟨Nat.zero_le _, Nat.zero_le _, Nat.le_of_ble_eq_true rfl⟩, sh361, ?_⟩
          refine C_lay hG hR (by omega) (by decide) ?_
          refine af_N0 rfl rfl rfl ?_
          try dsimp only
          try simp (disch := omega) only [m3_z, m3_f, m3_q, u2_m3_z, u2_m3_f, u2_m3_q, uz_ne, uz_same, Int.reduceToNat]
          refine B_X10_settle_81 ?_
          try dsimp only
          try simp (disch := omega) only [m3_z, m3_f, m3_q, u2_m3_z, u2_m3_f, u2_m3_q, uz_ne, uz_same, Int.reduceToNat]
          refine ⟨⟨Nat.zero_le _, Nat.zero_le _, Nat.le_of_ble_eq_true rfl⟩, sh361, ?_⟩
          refine C_of hG hR (by omega) (by decide) (fun r hr => ?_)
          try simp (disch := omega) only [m3_z, Int.reduceToNat, uz_ne, uz_same] at hr
          subst hr
          refine af_I0 rfl rfl (by decide) ?_
          try dsimp only
          try simp (disch := omega) only [m3_z, m3_f, m3_q, u2_m3_z, u2_m3_f, u2_m3_q, uz_ne, uz_same, Int.reduceToNat]
          refine B_X10_settle_90 ?_
          try dsimp only
          try simp (disch := omega) only [m3_z, m3_f, m3_q, u2_m3_z, u2_m3_f, u2_m3_q, uz_ne, uz_same, Int.reduceToNat]
          refine ⟨⟨Nat.zero_le _, Nat.zero_le _, Nat.le_of_ble_eq_true rfl⟩, sh361, ?_⟩
          refine C_lay hG hR (by omega) (by decide) ?_
          refine af_N0 rfl rfl rfl ?_
          try dsimp only
          try simp (disch := omega) only [m3_z, m3_f, m3_q, u2_m3_z, u2_m3_f, u2_m3_q, uz_ne, uz_same, Int.reduceToNat]
          refine B_X10_settle_93 ?_
          try dsimp only
          try simp (disch := omega) only [m3_z, m3_f, m3_q, u2_m3_z, u2_m3_f, u2_m3_q, uz_ne, uz_same, Int.reduceToNat]
          refine ⟨rfl, ?_⟩
          have hQ := hQ
          unfold settZ tf at hQ
          first
            | (rw [if_pos (by omega)] at hQ; exact hQ)
            | (rw [if_neg (by omega), if_pos (by omega)] at hQ; exact hQ)
            | (rw [if_neg (by omega), if_neg (by omega)] at hQ; exact hQ)
  · refine ⟨⟨Nat.zero_le _, Nat.zero_le _, Nat.le_of_ble_eq_true rfl⟩, sh361, ?_⟩
    refine C_of hG hR (by omega) (by decide) (fun r hr => ?_)
    try simp (disch := omega) only [m3_z, Int.reduceToNat, uz_ne, uz_same] at hr
    subst hr
    refine af_I0 rfl rfl (by decide) ?_
    try dsimp only
    try simp (disch := omega) only [m3_z, m3_f, m3_q, u2_m3_z, u2_m3_f, u2_m3_q, uz_ne, uz_same, Int.reduceToNat]
    refine B_X10_settle_16 ?_
    try dsimp only
    try simp (disch := omega) only [m3_z, m3_f, m3_q, u2_m3_z, u2_m3_f, u2_m3_q, uz_ne, uz_same, Int.reduceToNat]
    refine ⟨fun c16_2 => ?_, fun c16_2 => ?_⟩
    · refine B_X10_settle_46 ?_
      try dsimp only
      try simp (disch := omega) only [m3_z, m3_f, m3_q, u2_m3_z, u2_m3_f, u2_m3_q, uz_ne, uz_same, Int.reduceToNat]
      refine ⟨⟨Nat.zero_le _, Nat.zero_le _, Nat.le_of_ble_eq_true rfl⟩, sh361, ?_⟩
      refine C_of hG hR (by omega) (by decide) (fun r hr => ?_)
      try simp (disch := omega) only [m3_z, Int.reduceToNat, uz_ne, uz_same] at hr
      subst hr
      refine af_I0 rfl rfl (by decide) ?_
      try dsimp only
      try simp (disch := omega) only [m3_z, m3_f, m3_q, u2_m3_z, u2_m3_f, u2_m3_q, uz_ne, uz_same, Int.reduceToNat]
      refine B_X10_settle_52 ?_
      try dsimp only
      try simp (disch := omega) only [m3_z, m3_f, m3_q, u2_m3_z, u2_m3_f, u2_m3_q, uz_ne, uz_same, Int.reduceToNat]
      refine ⟨fun c53_4 => ?_, fun c53_4 => ?_⟩
      · refine B_X10_settle_93 ?_
        try dsimp only
        try simp (disch := omega) only [m3_z, m3_f, m3_q, u2_m3_z, u2_m3_f, u2_m3_q, uz_ne, uz_same, Int.reduceToNat]
        refine ⟨rfl, ?_⟩
        have hQ := hQ
        unfold settZ tf at hQ
        first
          | (rw [if_pos (by omega)] at hQ; exact hQ)
          | (rw [if_neg (by omega), if_pos (by omega)] at hQ; exact hQ)
          | (rw [if_neg (by omega), if_neg (by omega)] at hQ; exact hQ)
      · refine ⟨⟨Nat.zero_le _, Nat.zero_le _, Nat.le_of_ble_eq_true rfl⟩, sh361, ?_⟩
        refine C_of hG hR (by omega) (by decide) (fun r hr => ?_)
        try simp (disch := omega) only [m3_z, Int.reduceToNat, uz_ne, uz_same] at hr
        subst hr
        refine af_I0 rfl rfl (by decide) ?_
        try dsimp only
        try simp (disch := omega) only [m3_z, m3_f, m3_q, u2_m3_z, u2_m3_f, u2_m3_q, uz_ne, uz_same, Int.reduceToNat]
        refine B_X10_settle_63 ?_
        try dsimp only
        try simp (disch := omega) only [m3_z, m3_f, m3_q, u2_m3_z, u2_m3_f, u2_m3_q, uz_ne, uz_same, Int.reduceToNat]
        refine ⟨fun c63_5 => ?_, fun c63_5 => ?_⟩
        · refine B_X10_settle_93 ?_
          try dsimp only
          try simp (disch := omega) only [m3_z, m3_f, m3_q, u2_m3_z, u2_m3_f, u2_m3_q, uz_ne, uz_same, Int.reduceToNat]
          refine ⟨rfl, ?_⟩
          have hQ := hQ
          unfold settZ tf at hQ
          first
            | (rw [if_pos (by omega)] at hQ; exact hQ)
            | (rw [if_neg (by omega), if_pos (by omega)] at hQ; exact hQ)
            | (rw [if_neg (by omega), if_neg (by omega)] at hQ; exact hQ)
        · refine ⟨⟨Nat.zero_le _, Nat.zero_le _, Nat.le_of_ble_eq_true rfl⟩, sh361, ?_⟩
          refine C_seesEnemy hG hR hh' hn' ht' (k := k) hk (fun r9 hr9 => ?_)
          have hr9 : r9 = seN z k.toNat (z 98).toNat := hr9
          have hs9 := seN_b z k.toNat (z 98).toNat
          refine af_I0 rfl rfl (by decide) ?_
          try dsimp only
          try simp (disch := omega) only [m3_z, m3_f, m3_q, u2_m3_z, u2_m3_f, u2_m3_q, uz_ne, uz_same, Int.reduceToNat]
          refine B_X10_settle_71 ?_
          try dsimp only
          try simp (disch := omega) only [m3_z, m3_f, m3_q, u2_m3_z, u2_m3_f, u2_m3_q, uz_ne, uz_same, Int.reduceToNat]
          refine ⟨fun c71_6 => ?_, fun c71_6 => ?_⟩
          · refine B_X10_settle_93 ?_
            try dsimp only
            try simp (disch := omega) only [m3_z, m3_f, m3_q, u2_m3_z, u2_m3_f, u2_m3_q, uz_ne, uz_same, Int.reduceToNat]
            refine ⟨rfl, ?_⟩
            have hQ := hQ
            unfold settZ tf at hQ
            first
              | (rw [if_pos (by omega)] at hQ; exact hQ)
              | (rw [if_neg (by omega), if_pos (by omega)] at hQ; exact hQ)
              | (rw [if_neg (by omega), if_neg (by omega)] at hQ; exact hQ)
          · refine ⟨⟨Nat.zero_le _, Nat.zero_le _, Nat.le_of_ble_eq_true rfl⟩, sh361, ?_⟩
            refine C_lay hG hR (by omega) (by decide) ?_
            refine af_N0 rfl rfl rfl ?_
            try dsimp only
            try simp (disch := omega) only [m3_z, m3_f, m3_q, u2_m3_z, u2_m3_f, u2_m3_q, uz_ne, uz_same, Int.reduceToNat]
            refine B_X10_settle_81 ?_
            try dsimp only
            try simp (disch := omega) only [m3_z, m3_f, m3_q, u2_m3_z, u2_m3_f, u2_m3_q, uz_ne, uz_same, Int.reduceToNat]
            refine ⟨⟨Nat.zero_le _, Nat.zero_le _, Nat.le_of_ble_eq_true rfl⟩, sh361, ?_⟩
            refine C_of hG hR (by omega) (by decide) (fun r hr => ?_)
            try simp (disch := omega) only [m3_z, Int.reduceToNat, uz_ne, uz_same] at hr
            subst hr
            refine af_I0 rfl rfl (by decide) ?_
            try dsimp only
            try simp (disch := omega) only [m3_z, m3_f, m3_q, u2_m3_z, u2_m3_f, u2_m3_q, uz_ne, uz_same, Int.reduceToNat]
            refine B_X10_settle_90 ?_
            try dsimp only
            try simp (disch := omega) only [m3_z, m3_f, m3_q, u2_m3_z, u2_m3_f, u2_m3_q, uz_ne, uz_same, Int.reduceToNat]
            refine ⟨⟨Nat.zero_le _, Nat.zero_le _, Nat.le_of_ble_eq_true rfl⟩, sh361, ?_⟩
            refine C_lay hG hR (by omega) (by decide) ?_
            refine af_N0 rfl rfl rfl ?_
            try dsimp only
            try simp (disch := omega) only [m3_z, m3_f, m3_q, u2_m3_z, u2_m3_f, u2_m3_q, uz_ne, uz_same, Int.reduceToNat]
            refine B_X10_settle_93 ?_
            try dsimp only
            try simp (disch := omega) only [m3_z, m3_f, m3_q, u2_m3_z, u2_m3_f, u2_m3_q, uz_ne, uz_same, Int.reduceToNat]
            refine ⟨rfl, ?_⟩
            have hQ := hQ
            unfold settZ tf at hQ
            first
              | (rw [if_pos (by omega)] at hQ; exact hQ)
              | (rw [if_neg (by omega), if_pos (by omega)] at hQ; exact hQ)
              | (rw [if_neg (by omega), if_neg (by omega)] at hQ; exact hQ)
    · refine ⟨⟨Nat.zero_le _, Nat.zero_le _, Nat.le_of_ble_eq_true rfl⟩, sh361, ?_⟩
      refine C_of hG hR (by omega) (by decide) (fun r hr => ?_)
      try simp (disch := omega) only [m3_z, Int.reduceToNat, uz_ne, uz_same] at hr
      subst hr
      refine af_I0 rfl rfl (by decide) ?_
      try dsimp only
      try simp (disch := omega) only [m3_z, m3_f, m3_q, u2_m3_z, u2_m3_f, u2_m3_q, uz_ne, uz_same, Int.reduceToNat]
      refine B_X10_settle_26 ?_
      try dsimp only
      try simp (disch := omega) only [m3_z, m3_f, m3_q, u2_m3_z, u2_m3_f, u2_m3_q, uz_ne, uz_same, Int.reduceToNat]
      refine ⟨by (refine ⟨?_, ?_⟩ <;> omega), ?_⟩
      refine ⟨⟨Nat.zero_le _, Nat.zero_le _, Nat.le_of_ble_eq_true rfl⟩, sh361, ?_⟩
      refine C_of hG hR (by omega) (by decide) (fun r hr => ?_)
      try simp (disch := omega) only [m3_z, Int.reduceToNat, uz_ne, uz_same] at hr
      subst hr
      refine af_I0 rfl rfl (by decide) ?_
      try dsimp only
      try simp (disch := omega) only [m3_z, m3_f, m3_q, u2_m3_z, u2_m3_f, u2_m3_q, uz_ne, uz_same, Int.reduceToNat]
      refine B_X10_settle_33 ?_
      try dsimp only
      try simp (disch := omega) only [m3_z, m3_f, m3_q, u2_m3_z, u2_m3_f, u2_m3_q, uz_ne, uz_same, Int.reduceToNat]
      refine ⟨fun c33_4 => ?_, fun c33_4 => ?_⟩
      · refine B_X10_settle_46 ?_
        try dsimp only
        try simp (disch := omega) only [m3_z, m3_f, m3_q, u2_m3_z, u2_m3_f, u2_m3_q, uz_ne, uz_same, Int.reduceToNat]
        refine ⟨⟨Nat.zero_le _, Nat.zero_le _, Nat.le_of_ble_eq_true rfl⟩, sh361, ?_⟩
        refine C_of hG hR (by omega) (by decide) (fun r hr => ?_)
        try simp (disch := omega) only [m3_z, Int.reduceToNat, uz_ne, uz_same] at hr
        subst hr
        refine af_I0 rfl rfl (by decide) ?_
        try dsimp only
        try simp (disch := omega) only [m3_z, m3_f, m3_q, u2_m3_z, u2_m3_f, u2_m3_q, uz_ne, uz_same, Int.reduceToNat]
        refine B_X10_settle_52 ?_
        try dsimp only
        try simp (disch := omega) only [m3_z, m3_f, m3_q, u2_m3_z, u2_m3_f, u2_m3_q, uz_ne, uz_same, Int.reduceToNat]
        refine ⟨fun c53_6 => ?_, fun c53_6 => ?_⟩
        · refine B_X10_settle_93 ?_
          try dsimp only
          try simp (disch := omega) only [m3_z, m3_f, m3_q, u2_m3_z, u2_m3_f, u2_m3_q, uz_ne, uz_same, Int.reduceToNat]
          refine ⟨rfl, ?_⟩
          have hQ := hQ
          unfold settZ tf at hQ
          first
            | (rw [if_pos (by omega)] at hQ; exact hQ)
            | (rw [if_neg (by omega), if_pos (by omega)] at hQ; exact hQ)
            | (rw [if_neg (by omega), if_neg (by omega)] at hQ; exact hQ)
        · refine ⟨⟨Nat.zero_le _, Nat.zero_le _, Nat.le_of_ble_eq_true rfl⟩, sh361, ?_⟩
          refine C_of hG hR (by omega) (by decide) (fun r hr => ?_)
          try simp (disch := omega) only [m3_z, Int.reduceToNat, uz_ne, uz_same] at hr
          subst hr
          refine af_I0 rfl rfl (by decide) ?_
          try dsimp only
          try simp (disch := omega) only [m3_z, m3_f, m3_q, u2_m3_z, u2_m3_f, u2_m3_q, uz_ne, uz_same, Int.reduceToNat]
          refine B_X10_settle_63 ?_
          try dsimp only
          try simp (disch := omega) only [m3_z, m3_f, m3_q, u2_m3_z, u2_m3_f, u2_m3_q, uz_ne, uz_same, Int.reduceToNat]
          refine ⟨fun c63_7 => ?_, fun c63_7 => ?_⟩
          · refine B_X10_settle_93 ?_
            try dsimp only
            try simp (disch := omega) only [m3_z, m3_f, m3_q, u2_m3_z, u2_m3_f, u2_m3_q, uz_ne, uz_same, Int.reduceToNat]
            refine ⟨rfl, ?_⟩
            have hQ := hQ
            unfold settZ tf at hQ
            first
              | (rw [if_pos (by omega)] at hQ; exact hQ)
              | (rw [if_neg (by omega), if_pos (by omega)] at hQ; exact hQ)
              | (rw [if_neg (by omega), if_neg (by omega)] at hQ; exact hQ)
          · refine ⟨⟨Nat.zero_le _, Nat.zero_le _, Nat.le_of_ble_eq_true rfl⟩, sh361, ?_⟩
            refine C_seesEnemy hG hR hh' hn' ht' (k := k) hk (fun r9 hr9 => ?_)
            have hr9 : r9 = seN z k.toNat (z 98).toNat := hr9
            have hs9 := seN_b z k.toNat (z 98).toNat
            refine af_I0 rfl rfl (by decide) ?_
            try dsimp only
            try simp (disch := omega) only [m3_z, m3_f, m3_q, u2_m3_z, u2_m3_f, u2_m3_q, uz_ne, uz_same, Int.reduceToNat]
            refine B_X10_settle_71 ?_
            try dsimp only
            try simp (disch := omega) only [m3_z, m3_f, m3_q, u2_m3_z, u2_m3_f, u2_m3_q, uz_ne, uz_same, Int.reduceToNat]
            refine ⟨fun c71_8 => ?_, fun c71_8 => ?_⟩
            · refine B_X10_settle_93 ?_
              try dsimp only
              try simp (disch := omega) only [m3_z, m3_f, m3_q, u2_m3_z, u2_m3_f, u2_m3_q, uz_ne, uz_same, Int.reduceToNat]
              refine ⟨rfl, ?_⟩
              have hQ := hQ
              unfold settZ tf at hQ
              first
                | (rw [if_pos (by omega)] at hQ; exact hQ)
                | (rw [if_neg (by omega), if_pos (by omega)] at hQ; exact hQ)
                | (rw [if_neg (by omega), if_neg (by omega)] at hQ; exact hQ)
            · refine ⟨⟨Nat.zero_le _, Nat.zero_le _, Nat.le_of_ble_eq_true rfl⟩, sh361, ?_⟩
              refine C_lay hG hR (by omega) (by decide) ?_
              refine af_N0 rfl rfl rfl ?_
              try dsimp only
              try simp (disch := omega) only [m3_z, m3_f, m3_q, u2_m3_z, u2_m3_f, u2_m3_q, uz_ne, uz_same, Int.reduceToNat]
              refine B_X10_settle_81 ?_
              try dsimp only
              try simp (disch := omega) only [m3_z, m3_f, m3_q, u2_m3_z, u2_m3_f, u2_m3_q, uz_ne, uz_same, Int.reduceToNat]
              refine ⟨⟨Nat.zero_le _, Nat.zero_le _, Nat.le_of_ble_eq_true rfl⟩, sh361, ?_⟩
              refine C_of hG hR (by omega) (by decide) (fun r hr => ?_)
              try simp (disch := omega) only [m3_z, Int.reduceToNat, uz_ne, uz_same] at hr
              subst hr
              refine af_I0 rfl rfl (by decide) ?_
              try dsimp only
              try simp (disch := omega) only [m3_z, m3_f, m3_q, u2_m3_z, u2_m3_f, u2_m3_q, uz_ne, uz_same, Int.reduceToNat]
              refine B_X10_settle_90 ?_
              try dsimp only
              try simp (disch := omega) only [m3_z, m3_f, m3_q, u2_m3_z, u2_m3_f, u2_m3_q, uz_ne, uz_same, Int.reduceToNat]
              refine ⟨⟨Nat.zero_le _, Nat.zero_le _, Nat.le_of_ble_eq_true rfl⟩, sh361, ?_⟩
              refine C_lay hG hR (by omega) (by decide) ?_
              refine af_N0 rfl rfl rfl ?_
              try dsimp only
              try simp (disch := omega) only [m3_z, m3_f, m3_q, u2_m3_z, u2_m3_f, u2_m3_q, uz_ne, uz_same, Int.reduceToNat]
              refine B_X10_settle_93 ?_
              try dsimp only
              try simp (disch := omega) only [m3_z, m3_f, m3_q, u2_m3_z, u2_m3_f, u2_m3_q, uz_ne, uz_same, Int.reduceToNat]
              refine ⟨rfl, ?_⟩
              have hQ := hQ
              unfold settZ tf at hQ
              first
                | (rw [if_pos (by omega)] at hQ; exact hQ)
                | (rw [if_neg (by omega), if_pos (by omega)] at hQ; exact hQ)
                | (rw [if_neg (by omega), if_neg (by omega)] at hQ; exact hQ)
      · refine ⟨⟨Nat.zero_le _, Nat.zero_le _, Nat.le_of_ble_eq_true rfl⟩, sh361, ?_⟩
        refine C_lay hG hR (by omega) (by decide) ?_
        refine af_N0 rfl rfl rfl ?_
        try dsimp only
        try simp (disch := omega) only [m3_z, m3_f, m3_q, u2_m3_z, u2_m3_f, u2_m3_q, uz_ne, uz_same, Int.reduceToNat]
        refine B_X10_settle_43 ?_
        try dsimp only
        try simp (disch := omega) only [m3_z, m3_f, m3_q, u2_m3_z, u2_m3_f, u2_m3_q, uz_ne, uz_same, Int.reduceToNat]
        refine B_X10_settle_93 ?_
        try dsimp only
        try simp (disch := omega) only [m3_z, m3_f, m3_q, u2_m3_z, u2_m3_f, u2_m3_q, uz_ne, uz_same, Int.reduceToNat]
        refine ⟨rfl, ?_⟩
        have hQ := hQ
        unfold settZ tf at hQ
        first
          | (rw [if_pos (by omega)] at hQ; exact hQ)
          | (rw [if_neg (by omega), if_pos (by omega)] at hQ; exact hQ)
          | (rw [if_neg (by omega), if_neg (by omega)] at hQ; exact hQ)
