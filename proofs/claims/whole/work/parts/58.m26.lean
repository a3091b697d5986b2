/-! ===== the model: what is asked ===== -/
theorem C_cell {G : amG} {I : Nat → Nat → Int} {z f q : Row} {R : Nat → Nat → Option Nat} {L : Nat → Nat → Int64} {x c t : Nat} {Q : amR → amH → Prop} (hG : amG0 G) (hR : RM R) {v w : Int} (hh : wfH z) (hn : wfN z) (hQ : (¬ (0 ≤ v ∧ v ≤ 95) → Q (Sum.inl (some (aI 0))) (m3 (u2 I 361 0 1) z f q, R, L, SH, x, 0, 0)) ∧ ((0 ≤ v ∧ v ≤ 95) ∧ ¬ (0 ≤ w ∧ w ≤ 3) → Q (Sum.inl (some (aI 0))) (m3 (u2 I 361 0 2) z f q, R, L, SH, x, 0, 0)) ∧ ((0 ≤ v ∧ v ≤ 95) ∧ (0 ≤ w ∧ w ≤ 3) → Q (Sum.inl (some (aI (ceN z v w)))) (m3 (u2 I 361 0 0) z f q, R, L, SH, x, 0, 0))) : CT G sX10_cell [aR (some 361), aI v, aI w] (m3 I z f q, R, L, SH, x, c, t) Q := by
  refine CT_of ok_X10_cell hG (Nat.le_of_ble_eq_true rfl) ?_
  show X G mX10_cell Q 0 _ [] (m3 I z f q, R, L, SH, x, 0, 0)
  refine B_X10_cell_0 ?_
  try dsimp only
  try simp (disch := omega) only [m3_z, m3_f, m3_q, m3_o, u2_m3_z, u2_m3_f, u2_m3_q, u2_m3_o, pr_at, pr_off, u2_pr, u2_at, u2_off, uz_same, uz_ne, Int.reduceToNat]
  refine ⟨⟨Nat.zero_le _, Nat.zero_le _, Nat.le_of_ble_eq_true rfl⟩, trivial, ?_⟩
  refine C_isCell hG (fun r hr => ?_)
  refine af_I0 rfl rfl (by decide) ?_
  try dsimp only
  try simp (disch := omega) only [m3_z, m3_f, m3_q, m3_o, u2_m3_z, u2_m3_f, u2_m3_q, u2_m3_o, pr_at, pr_off, u2_pr, u2_at, u2_off, uz_same, uz_ne, Int.reduceToNat]
  refine B_X10_cell_5 ?_
  try dsimp only
  try simp (disch := omega) only [m3_z, m3_f, m3_q, m3_o, u2_m3_z, u2_m3_f, u2_m3_q, u2_m3_o, pr_at, pr_off, u2_pr, u2_at, u2_off, uz_same, uz_ne, Int.reduceToNat]
  refine ⟨fun c5_1 => ?_, fun c5_1 => ?_⟩
  · refine B_X10_cell_12 ?_
    try dsimp only
    try simp (disch := omega) only [m3_z, m3_f, m3_q, m3_o, u2_m3_z, u2_m3_f, u2_m3_q, u2_m3_o, pr_at, pr_off, u2_pr, u2_at, u2_off, uz_same, uz_ne, Int.reduceToNat]
    refine ⟨⟨Nat.zero_le _, Nat.zero_le _, Nat.le_of_ble_eq_true rfl⟩, trivial, ?_⟩
    refine C_within hG (fun r2 hr2 => ?_)
    refine af_I0 rfl rfl (by decide) ?_
    try dsimp only
    try simp (disch := omega) only [m3_z, m3_f, m3_q, m3_o, u2_m3_z, u2_m3_f, u2_m3_q, u2_m3_o, pr_at, pr_off, u2_pr, u2_at, u2_off, uz_same, uz_ne, Int.reduceToNat]
    refine B_X10_cell_18 ?_
    try dsimp only
    try simp (disch := omega) only [m3_z, m3_f, m3_q, m3_o, u2_m3_z, u2_m3_f, u2_m3_q, u2_m3_o, pr_at, pr_off, u2_pr, u2_at, u2_off, uz_same, uz_ne, Int.reduceToNat]
    refine ⟨fun c18_3 => ?_, fun c18_3 => ?_⟩
    · refine B_X10_cell_25 ?_
      try dsimp only
      try simp (disch := omega) only [m3_z, m3_f, m3_q, m3_o, u2_m3_z, u2_m3_f, u2_m3_q, u2_m3_o, pr_at, pr_off, u2_pr, u2_at, u2_off, uz_same, uz_ne, Int.reduceToNat]
      refine B_X10_cell_26 ?_
      try dsimp only
      try simp (disch := omega) only [m3_z, m3_f, m3_q, m3_o, u2_m3_z, u2_m3_f, u2_m3_q, u2_m3_o, pr_at, pr_off, u2_pr, u2_at, u2_off, uz_same, uz_ne, Int.reduceToNat]
      refine ⟨sh361, ?_⟩
      try simp (disch := omega) only [m3_z, m3_f, m3_q, m3_o, u2_m3_z, u2_m3_f, u2_m3_q, u2_m3_o, pr_at, pr_off, u2_pr, u2_at, u2_off, uz_same, uz_ne, Int.reduceToNat]
      refine ⟨sh361, ?_⟩
      refine ⟨fun c33_5 => ?_, fun c33_5 => ?_⟩
      · refine B_X10_cell_40 ?_
        try dsimp only
        try simp (disch := omega) only [m3_z, m3_f, m3_q, m3_o, u2_m3_z, u2_m3_f, u2_m3_q, u2_m3_o, pr_at, pr_off, u2_pr, u2_at, u2_off, uz_same, uz_ne, Int.reduceToNat]
        first
          | (exfalso; omega)
          | exact absurd True.intro (by assumption)
          | (refine ⟨⟨Nat.zero_le _, Nat.zero_le _, Nat.le_of_ble_eq_true rfl⟩, sh361, ?_⟩
             refine C_cellNow hG hR (I := m3 _ z f q) hh hn (by unfold isC; omega) (fun r3 hr3 => ?_)
             have hr3 : r3 = ceN z v w := hr3
             rw [hr3]
             refine af_I0 rfl rfl (by decide) ?_
             try dsimp only
             try simp (disch := omega) only [m3_z, m3_f, m3_q, m3_o, u2_m3_z, u2_m3_f, u2_m3_q, u2_m3_o, pr_at, pr_off, u2_pr, u2_at, u2_off, uz_same, uz_ne, Int.reduceToNat]
             refine B_X10_cell_46 ?_
             try dsimp only
             try simp (disch := omega) only [m3_z, m3_f, m3_q, m3_o, u2_m3_z, u2_m3_f, u2_m3_q, u2_m3_o, pr_at, pr_off, u2_pr, u2_at, u2_off, uz_same, uz_ne, Int.reduceToNat]
             first
               | exact absurd True.intro (by assumption)
               | (exfalso; omega)
               | exact hQ.1 (by omega)
               | exact hQ.2.1 (by omega)
               | exact hQ.2.2 (by omega))
      · refine B_X10_cell_46 ?_
        try dsimp only
        try simp (disch := omega) only [m3_z, m3_f, m3_q, m3_o, u2_m3_z, u2_m3_f, u2_m3_q, u2_m3_o, pr_at, pr_off, u2_pr, u2_at, u2_off, uz_same, uz_ne, Int.reduceToNat]
        first
          | exact absurd True.intro (by assumption)
          | (exfalso; omega)
          | exact hQ.1 (by omega)
          | exact hQ.2.1 (by omega)
          | exact hQ.2.2 (by omega)
    · refine B_X10_cell_26 ?_
      try dsimp only
      try simp (disch := omega) only [m3_z, m3_f, m3_q, m3_o, u2_m3_z, u2_m3_f, u2_m3_q, u2_m3_o, pr_at, pr_off, u2_pr, u2_at, u2_off, uz_same, uz_ne, Int.reduceToNat]
      refine ⟨sh361, ?_⟩
      try simp (disch := omega) only [m3_z, m3_f, m3_q, m3_o, u2_m3_z, u2_m3_f, u2_m3_q, u2_m3_o, pr_at, pr_off, u2_pr, u2_at, u2_off, uz_same, uz_ne, Int.reduceToNat]
      refine ⟨sh361, ?_⟩
      refine ⟨fun c33_4 => ?_, fun c33_4 => ?_⟩
      · refine B_X10_cell_40 ?_
        try dsimp only
        try simp (disch := omega) only [m3_z, m3_f, m3_q, m3_o, u2_m3_z, u2_m3_f, u2_m3_q, u2_m3_o, pr_at, pr_off, u2_pr, u2_at, u2_off, uz_same, uz_ne, Int.reduceToNat]
        first
          | (exfalso; omega)
          | exact absurd True.intro (by assumption)
          | (refine ⟨⟨Nat.zero_le _, Nat.zero_le _, Nat.le_of_ble_eq_true rfl⟩, sh361, ?_⟩
             refine C_cellNow hG hR (I := m3 _ z f q) hh hn (by unfold isC; omega) (fun r3 hr3 => ?_)
             have hr3 : r3 = ceN z v w := hr3
             rw [hr3]
             refine af_I0 rfl rfl (by decide) ?_
             try dsimp only
             try simp (disch := omega) only [m3_z, m3_f, m3_q, m3_o, u2_m3_z, u2_m3_f, u2_m3_q, u2_m3_o, pr_at, pr_off, u2_pr, u2_at, u2_off, uz_same, uz_ne, Int.reduceToNat]
             refine B_X10_cell_46 ?_
             try dsimp only
             try simp (disch := omega) only [m3_z, m3_f, m3_q, m3_o, u2_m3_z, u2_m3_f, u2_m3_q, u2_m3_o, pr_at, pr_off, u2_pr, u2_at, u2_off, uz_same, uz_ne, Int.reduceToNat]
             first
               | exact absurd True.intro (by assumption)
               | (exfalso; omega)
               | exact hQ.1 (by omega)
               | exact hQ.2.1 (by omega)
               | exact hQ.2.2 (by omega))
      · refine B_X10_cell_46 ?_
        try dsimp only
        try simp (disch := omega) only [m3_z, m3_f, m3_q, m3_o, u2_m3_z, u2_m3_f, u2_m3_q, u2_m3_o, pr_at, pr_off, u2_pr, u2_at, u2_off, uz_same, uz_ne, Int.reduceToNat]
        first
          | exact absurd True.intro (by assumption)
          | (exfalso; omega)
          | exact hQ.1 (by omega)
          | exact hQ.2.1 (by omega)
          | exact hQ.2.2 (by omega)
  · refine B_X10_cell_26 ?_
    try dsimp only
    try simp (disch := omega) only [m3_z, m3_f, m3_q, m3_o, u2_m3_z, u2_m3_f, u2_m3_q, u2_m3_o, pr_at, pr_off, u2_pr, u2_at, u2_off, uz_same, uz_ne, Int.reduceToNat]
    refine ⟨sh361, ?_⟩
    try simp (disch := omega) only [m3_z, m3_f, m3_q, m3_o, u2_m3_z, u2_m3_f, u2_m3_q, u2_m3_o, pr_at, pr_off, u2_pr, u2_at, u2_off, uz_same, uz_ne, Int.reduceToNat]
    refine ⟨sh361, ?_⟩
    refine ⟨fun c33_2 => ?_, fun c33_2 => ?_⟩
    · refine B_X10_cell_40 ?_
      try dsimp only
      try simp (disch := omega) only [m3_z, m3_f, m3_q, m3_o, u2_m3_z, u2_m3_f, u2_m3_q, u2_m3_o, pr_at, pr_off, u2_pr, u2_at, u2_off, uz_same, uz_ne, Int.reduceToNat]
      first
        | (exfalso; omega)
        | exact absurd True.intro (by assumption)
        | (refine ⟨⟨Nat.zero_le _, Nat.zero_le _, Nat.le_of_ble_eq_true rfl⟩, sh361, ?_⟩
           refine C_cellNow hG hR (I := m3 _ z f q) hh hn (by unfold isC; omega) (fun r3 hr3 => ?_)
           have hr3 : r3 = ceN z v w := hr3
           rw [hr3]
           refine af_I0 rfl rfl (by decide) ?_
           try dsimp only
           try simp (disch := omega) only [m3_z, m3_f, m3_q, m3_o, u2_m3_z, u2_m3_f, u2_m3_q, u2_m3_o, pr_at, pr_off, u2_pr, u2_at, u2_off, uz_same, uz_ne, Int.reduceToNat]
           refine B_X10_cell_46 ?_
           try dsimp only
           try simp (disch := omega) only [m3_z, m3_f, m3_q, m3_o, u2_m3_z, u2_m3_f, u2_m3_q, u2_m3_o, pr_at, pr_off, u2_pr, u2_at, u2_off, uz_same, uz_ne, Int.reduceToNat]
           first
             | exact absurd True.intro (by assumption)
             | (exfalso; omega)
             | exact hQ.1 (by omega)
             | exact hQ.2.1 (by omega)
             | exact hQ.2.2 (by omega))
    · refine B_X10_cell_46 ?_
      try dsimp only
      try simp (disch := omega) only [m3_z, m3_f, m3_q, m3_o, u2_m3_z, u2_m3_f, u2_m3_q, u2_m3_o, pr_at, pr_off, u2_pr, u2_at, u2_off, uz_same, uz_ne, Int.reduceToNat]
      first
        | exact absurd True.intro (by assumption)
        | (exfalso; omega)
        | exact hQ.1 (by omega)
        | exact hQ.2.1 (by omega)
        | exact hQ.2.2 (by omega)
theorem C_troop {G : amG} {I : Nat → Nat → Int} {z f q : Row} {R : Nat → Nat → Option Nat} {L : Nat → Nat → Int64} {x c t : Nat} {Q : amR → amH → Prop} (hG : amG0 G) (hR : RM R) {k w : Int} (hn : wfN z) (ho : 0 ≤ z 195 ∧ z 195 ≤ 30) (hQ : (¬ (0 ≤ k ∧ k < z 98) → Q (Sum.inl (some (aI 0))) (m3 (u2 I 361 0 1) z f q, R, L, SH, x, 0, 0)) ∧ ((0 ≤ k ∧ k < z 98) ∧ ¬ (0 ≤ w ∧ w ≤ 8) → Q (Sum.inl (some (aI 0))) (m3 (u2 I 361 0 2) z f q, R, L, SH, x, 0, 0)) ∧ ((0 ≤ k ∧ k < z 98) ∧ (0 ≤ w ∧ w ≤ 8) → Q (Sum.inl (some (aI (trN z k.toNat w)))) (m3 (u2 I 361 0 0) z f q, R, L, SH, x, 0, 0))) : CT G sX10_troop [aR (some 361), aI k, aI w] (m3 I z f q, R, L, SH, x, c, t) Q := by
  refine CT_of ok_X10_troop hG (Nat.le_of_ble_eq_true rfl) ?_
  show X G mX10_troop Q 0 _ [] (m3 I z f q, R, L, SH, x, 0, 0)
  have hn1 := hn.1
  have hn2 := hn.2
  refine B_X10_troop_0 ?_
  try dsimp only
  try simp (disch := omega) only [m3_z, m3_f, m3_q, m3_o, u2_m3_z, u2_m3_f, u2_m3_q, u2_m3_o, pr_at, pr_off, u2_pr, u2_at, u2_off, uz_same, uz_ne, Int.reduceToNat]
  refine ⟨⟨Nat.zero_le _, Nat.zero_le _, Nat.le_of_ble_eq_true rfl⟩, sh361, ?_⟩
  refine C_isTroop hG hR (I := m3 I z f q) hn (fun r hr => ?_)
  have hr : ((0 ≤ k ∧ k < z 98) ∧ r = 1) ∨ (¬ (0 ≤ k ∧ k < z 98) ∧ r = 0) := hr
  refine af_I0 rfl rfl (by decide) ?_
  try dsimp only
  try simp (disch := omega) only [m3_z, m3_f, m3_q, m3_o, u2_m3_z, u2_m3_f, u2_m3_q, u2_m3_o, pr_at, pr_off, u2_pr, u2_at, u2_off, uz_same, uz_ne, Int.reduceToNat]
  refine B_X10_troop_6 ?_
  try dsimp only
  try simp (disch := omega) only [m3_z, m3_f, m3_q, m3_o, u2_m3_z, u2_m3_f, u2_m3_q, u2_m3_o, pr_at, pr_off, u2_pr, u2_at, u2_off, uz_same, uz_ne, Int.reduceToNat]
  refine ⟨fun c6_1 => ?_, fun c6_1 => ?_⟩
  · refine B_X10_troop_13 ?_
    try dsimp only
    try simp (disch := omega) only [m3_z, m3_f, m3_q, m3_o, u2_m3_z, u2_m3_f, u2_m3_q, u2_m3_o, pr_at, pr_off, u2_pr, u2_at, u2_off, uz_same, uz_ne, Int.reduceToNat]
    refine ⟨⟨Nat.zero_le _, Nat.zero_le _, Nat.le_of_ble_eq_true rfl⟩, trivial, ?_⟩
    refine C_within hG (fun r2 hr2 => ?_)
    refine af_I0 rfl rfl (by decide) ?_
    try dsimp only
    try simp (disch := omega) only [m3_z, m3_f, m3_q, m3_o, u2_m3_z, u2_m3_f, u2_m3_q, u2_m3_o, pr_at, pr_off, u2_pr, u2_at, u2_off, uz_same, uz_ne, Int.reduceToNat]
    refine B_X10_troop_20 ?_
    try dsimp only
    try simp (disch := omega) only [m3_z, m3_f, m3_q, m3_o, u2_m3_z, u2_m3_f, u2_m3_q, u2_m3_o, pr_at, pr_off, u2_pr, u2_at, u2_off, uz_same, uz_ne, Int.reduceToNat]
    refine ⟨fun c20_3 => ?_, fun c20_3 => ?_⟩
    · refine B_X10_troop_27 ?_
      try dsimp only
      try simp (disch := omega) only [m3_z, m3_f, m3_q, m3_o, u2_m3_z, u2_m3_f, u2_m3_q, u2_m3_o, pr_at, pr_off, u2_pr, u2_at, u2_off, uz_same, uz_ne, Int.reduceToNat]
      refine B_X10_troop_28 ?_
      try dsimp only
      try simp (disch := omega) only [m3_z, m3_f, m3_q, m3_o, u2_m3_z, u2_m3_f, u2_m3_q, u2_m3_o, pr_at, pr_off, u2_pr, u2_at, u2_off, uz_same, uz_ne, Int.reduceToNat]
      refine ⟨sh361, ?_⟩
      try simp (disch := omega) only [m3_z, m3_f, m3_q, m3_o, u2_m3_z, u2_m3_f, u2_m3_q, u2_m3_o, pr_at, pr_off, u2_pr, u2_at, u2_off, uz_same, uz_ne, Int.reduceToNat]
      refine ⟨sh361, ?_⟩
      refine ⟨fun c35_5 => ?_, fun c35_5 => ?_⟩
      · refine B_X10_troop_42 ?_
        try dsimp only
        try simp (disch := omega) only [m3_z, m3_f, m3_q, m3_o, u2_m3_z, u2_m3_f, u2_m3_q, u2_m3_o, pr_at, pr_off, u2_pr, u2_at, u2_off, uz_same, uz_ne, Int.reduceToNat]
        first
          | (exfalso; omega)
          | exact absurd True.intro (by assumption)
          | (refine ⟨⟨Nat.zero_le _, Nat.zero_le _, Nat.le_of_ble_eq_true rfl⟩, sh361, ?_⟩
             refine C_troopNow hG hR (I := m3 _ z f q) ho (by omega) (by omega) (fun r3 hr3 => ?_)
             have hr3 : r3 = trN z k.toNat w := hr3
             rw [hr3]
             refine af_I0 rfl rfl (by decide) ?_
             try dsimp only
             try simp (disch := omega) only [m3_z, m3_f, m3_q, m3_o, u2_m3_z, u2_m3_f, u2_m3_q, u2_m3_o, pr_at, pr_off, u2_pr, u2_at, u2_off, uz_same, uz_ne, Int.reduceToNat]
             refine B_X10_troop_48 ?_
             try dsimp only
             try simp (disch := omega) only [m3_z, m3_f, m3_q, m3_o, u2_m3_z, u2_m3_f, u2_m3_q, u2_m3_o, pr_at, pr_off, u2_pr, u2_at, u2_off, uz_same, uz_ne, Int.reduceToNat]
             first
               | exact absurd True.intro (by assumption)
               | (exfalso; omega)
               | exact hQ.1 (by omega)
               | exact hQ.2.1 (by omega)
               | exact hQ.2.2 (by omega))
      · refine B_X10_troop_48 ?_
        try dsimp only
        try simp (disch := omega) only [m3_z, m3_f, m3_q, m3_o, u2_m3_z, u2_m3_f, u2_m3_q, u2_m3_o, pr_at, pr_off, u2_pr, u2_at, u2_off, uz_same, uz_ne, Int.reduceToNat]
        first
          | exact absurd True.intro (by assumption)
          | (exfalso; omega)
          | exact hQ.1 (by omega)
          | exact hQ.2.1 (by omega)
          | exact hQ.2.2 (by omega)
    · refine B_X10_troop_28 ?_
      try dsimp only
      try simp (disch := omega) only [m3_z, m3_f, m3_q, m3_o, u2_m3_z, u2_m3_f, u2_m3_q, u2_m3_o, pr_at, pr_off, u2_pr, u2_at, u2_off, uz_same, uz_ne, Int.reduceToNat]
      refine ⟨sh361, ?_⟩
      try simp (disch := omega) only [m3_z, m3_f, m3_q, m3_o, u2_m3_z, u2_m3_f, u2_m3_q, u2_m3_o, pr_at, pr_off, u2_pr, u2_at, u2_off, uz_same, uz_ne, Int.reduceToNat]
      refine ⟨sh361, ?_⟩
      refine ⟨fun c35_4 => ?_, fun c35_4 => ?_⟩
      · refine B_X10_troop_42 ?_
        try dsimp only
        try simp (disch := omega) only [m3_z, m3_f, m3_q, m3_o, u2_m3_z, u2_m3_f, u2_m3_q, u2_m3_o, pr_at, pr_off, u2_pr, u2_at, u2_off, uz_same, uz_ne, Int.reduceToNat]
        first
          | (exfalso; omega)
          | exact absurd True.intro (by assumption)
          | (refine ⟨⟨Nat.zero_le _, Nat.zero_le _, Nat.le_of_ble_eq_true rfl⟩, sh361, ?_⟩
             refine C_troopNow hG hR (I := m3 _ z f q) ho (by omega) (by omega) (fun r3 hr3 => ?_)
             have hr3 : r3 = trN z k.toNat w := hr3
             rw [hr3]
             refine af_I0 rfl rfl (by decide) ?_
             try dsimp only
             try simp (disch := omega) only [m3_z, m3_f, m3_q, m3_o, u2_m3_z, u2_m3_f, u2_m3_q, u2_m3_o, pr_at, pr_off, u2_pr, u2_at, u2_off, uz_same, uz_ne, Int.reduceToNat]
             refine B_X10_troop_48 ?_
             try dsimp only
             try simp (disch := omega) only [m3_z, m3_f, m3_q, m3_o, u2_m3_z, u2_m3_f, u2_m3_q, u2_m3_o, pr_at, pr_off, u2_pr, u2_at, u2_off, uz_same, uz_ne, Int.reduceToNat]
             first
               | exact absurd True.intro (by assumption)
               | (exfalso; omega)
               | exact hQ.1 (by omega)
               | exact hQ.2.1 (by omega)
               | exact hQ.2.2 (by omega))
      · refine B_X10_troop_48 ?_
        try dsimp only
        try simp (disch := omega) only [m3_z, m3_f, m3_q, m3_o, u2_m3_z, u2_m3_f, u2_m3_q, u2_m3_o, pr_at, pr_off, u2_pr, u2_at, u2_off, uz_same, uz_ne, Int.reduceToNat]
        first
          | exact absurd True.intro (by assumption)
          | (exfalso; omega)
          | exact hQ.1 (by omega)
          | exact hQ.2.1 (by omega)
          | exact hQ.2.2 (by omega)
  · refine B_X10_troop_28 ?_
    try dsimp only
    try simp (disch := omega) only [m3_z, m3_f, m3_q, m3_o, u2_m3_z, u2_m3_f, u2_m3_q, u2_m3_o, pr_at, pr_off, u2_pr, u2_at, u2_off, uz_same, uz_ne, Int.reduceToNat]
    refine ⟨sh361, ?_⟩
    try simp (disch := omega) only [m3_z, m3_f, m3_q, m3_o, u2_m3_z, u2_m3_f, u2_m3_q, u2_m3_o, pr_at, pr_off, u2_pr, u2_at, u2_off, uz_same, uz_ne, Int.reduceToNat]
    refine ⟨sh361, ?_⟩
    refine ⟨fun c35_2 => ?_, fun c35_2 => ?_⟩
    · refine B_X10_troop_42 ?_
      try dsimp only
      try simp (disch := omega) only [m3_z, m3_f, m3_q, m3_o, u2_m3_z, u2_m3_f, u2_m3_q, u2_m3_o, pr_at, pr_off, u2_pr, u2_at, u2_off, uz_same, uz_ne, Int.reduceToNat]
      first
        | (exfalso; omega)
        | exact absurd True.intro (by assumption)
        | (refine ⟨⟨Nat.zero_le _, Nat.zero_le _, Nat.le_of_ble_eq_true rfl⟩, sh361, ?_⟩
           refine C_troopNow hG hR (I := m3 _ z f q) ho (by omega) (by omega) (fun r3 hr3 => ?_)
           have hr3 : r3 = trN z k.toNat w := hr3
           rw [hr3]
           refine af_I0 rfl rfl (by decide) ?_
           try dsimp only
           try simp (disch := omega) only [m3_z, m3_f, m3_q, m3_o, u2_m3_z, u2_m3_f, u2_m3_q, u2_m3_o, pr_at, pr_off, u2_pr, u2_at, u2_off, uz_same, uz_ne, Int.reduceToNat]
           refine B_X10_troop_48 ?_
           try dsimp only
           try simp (disch := omega) only [m3_z, m3_f, m3_q, m3_o, u2_m3_z, u2_m3_f, u2_m3_q, u2_m3_o, pr_at, pr_off, u2_pr, u2_at, u2_off, uz_same, uz_ne, Int.reduceToNat]
           first
             | exact absurd True.intro (by assumption)
             | (exfalso; omega)
             | exact hQ.1 (by omega)
             | exact hQ.2.1 (by omega)
             | exact hQ.2.2 (by omega))
    · refine B_X10_troop_48 ?_
      try dsimp only
      try simp (disch := omega) only [m3_z, m3_f, m3_q, m3_o, u2_m3_z, u2_m3_f, u2_m3_q, u2_m3_o, pr_at, pr_off, u2_pr, u2_at, u2_off, uz_same, uz_ne, Int.reduceToNat]
      first
        | exact absurd True.intro (by assumption)
        | (exfalso; omega)
        | exact hQ.1 (by omega)
        | exact hQ.2.1 (by omega)
        | exact hQ.2.2 (by omega)
theorem C_underWay {G : amG} {I : Nat → Nat → Int} {z f q : Row} {R : Nat → Nat → Option Nat} {L : Nat → Nat → Int64} {x c t : Nat} {Q : amR → amH → Prop} (hG : amG0 G) (hR : RM R) {p w : Int} (ho : 0 ≤ z 195 ∧ z 195 ≤ 30) (hd : ∀ k : Nat, (k : Int) < z 195 → 0 ≤ z (196 + 4 * k + 3) ∧ z (196 + 4 * k + 3) ≤ 1100) (hex : 0 ≤ p → p < z 195 → ∃ o : Nat, (o : Int) < z 195 ∧ rkN z o (z 195).toNat = p) (hQ : (¬ (0 ≤ p ∧ p < z 195) → Q (Sum.inl (some (aI 0))) (m3 (u2 I 361 0 1) z f q, R, L, SH, x, 0, 0)) ∧ ((0 ≤ p ∧ p < z 195) ∧ ¬ (0 ≤ w ∧ w ≤ 3) → Q (Sum.inl (some (aI 0))) (m3 (u2 I 361 0 2) z f q, R, L, SH, x, 0, 0)) ∧ ((0 ≤ p ∧ p < z 195) ∧ (0 ≤ w ∧ w ≤ 3) → ∀ o : Nat, (o : Int) < z 195 → rkN z o (z 195).toNat = p → Q (Sum.inl (some (aI (z (196 + 4 * o + w.toNat))))) (m3 (u2 I 361 0 0) z f q, R, L, SH, x, 0, 0))) : CT G sX10_underWay [aR (some 361), aI p, aI w] (m3 I z f q, R, L, SH, x, c, t) Q := by
  refine CT_of ok_X10_underWay hG (Nat.le_of_ble_eq_true rfl) ?_
  show X G mX10_underWay Q 0 _ [] (m3 I z f q, R, L, SH, x, 0, 0)
  refine B_X10_underWay_0 ?_
  try dsimp only
  try simp (disch := omega) only [m3_z, m3_f, m3_q, m3_o, u2_m3_z, u2_m3_f, u2_m3_q, u2_m3_o, pr_at, pr_off, u2_pr, u2_at, u2_off, uz_same, uz_ne, Int.reduceToNat]
  refine ⟨sh361, _, hR.z, ?_⟩
  refine ⟨_, sh362, ⟨by omega, by omega⟩, ?_⟩
  try simp (disch := omega) only [m3_z, m3_f, m3_q, m3_o, u2_m3_z, u2_m3_f, u2_m3_q, u2_m3_o, pr_at, pr_off, u2_pr, u2_at, u2_off, uz_same, uz_ne, Int.reduceToNat]
  refine ⟨by (refine ⟨?_, ?_⟩ <;> omega), ?_⟩
  refine ⟨⟨Nat.zero_le _, Nat.zero_le _, Nat.le_of_ble_eq_true rfl⟩, trivial, ?_⟩
  refine C_within hG (fun r13 hr13 => ?_)
  refine af_I0 rfl rfl (by decide) ?_
  try dsimp only
  try simp (disch := omega) only [m3_z, m3_f, m3_q, m3_o, u2_m3_z, u2_m3_f, u2_m3_q, u2_m3_o, pr_at, pr_off, u2_pr, u2_at, u2_off, uz_same, uz_ne, Int.reduceToNat]
  refine B_X10_underWay_16 ?_
  try dsimp only
  try simp (disch := omega) only [m3_z, m3_f, m3_q, m3_o, u2_m3_z, u2_m3_f, u2_m3_q, u2_m3_o, pr_at, pr_off, u2_pr, u2_at, u2_off, uz_same, uz_ne, Int.reduceToNat]
  refine ⟨fun c16_1 => ?_, fun c16_1 => ?_⟩
  · refine B_X10_underWay_23 ?_
    try dsimp only
    try simp (disch := omega) only [m3_z, m3_f, m3_q, m3_o, u2_m3_z, u2_m3_f, u2_m3_q, u2_m3_o, pr_at, pr_off, u2_pr, u2_at, u2_off, uz_same, uz_ne, Int.reduceToNat]
    refine ⟨⟨Nat.zero_le _, Nat.zero_le _, Nat.le_of_ble_eq_true rfl⟩, trivial, ?_⟩
    refine C_within hG (fun r26 hr26 => ?_)
    refine af_I0 rfl rfl (by decide) ?_
    try dsimp only
    try simp (disch := omega) only [m3_z, m3_f, m3_q, m3_o, u2_m3_z, u2_m3_f, u2_m3_q, u2_m3_o, pr_at, pr_off, u2_pr, u2_at, u2_off, uz_same, uz_ne, Int.reduceToNat]
    refine B_X10_underWay_29 ?_
    try dsimp only
    try simp (disch := omega) only [m3_z, m3_f, m3_q, m3_o, u2_m3_z, u2_m3_f, u2_m3_q, u2_m3_o, pr_at, pr_off, u2_pr, u2_at, u2_off, uz_same, uz_ne, Int.reduceToNat]
    refine ⟨fun c29_3 => ?_, fun c29_3 => ?_⟩
    · refine B_X10_underWay_36 ?_
      try dsimp only
      try simp (disch := omega) only [m3_z, m3_f, m3_q, m3_o, u2_m3_z, u2_m3_f, u2_m3_q, u2_m3_o, pr_at, pr_off, u2_pr, u2_at, u2_off, uz_same, uz_ne, Int.reduceToNat]
      refine B_X10_underWay_37 ?_
      try dsimp only
      try simp (disch := omega) only [m3_z, m3_f, m3_q, m3_o, u2_m3_z, u2_m3_f, u2_m3_q, u2_m3_o, pr_at, pr_off, u2_pr, u2_at, u2_off, uz_same, uz_ne, Int.reduceToNat]
      refine ⟨sh361, ?_⟩
      try simp (disch := omega) only [m3_z, m3_f, m3_q, m3_o, u2_m3_z, u2_m3_f, u2_m3_q, u2_m3_o, pr_at, pr_off, u2_pr, u2_at, u2_off, uz_same, uz_ne, Int.reduceToNat]
      refine ⟨sh361, ?_⟩
      refine ⟨fun c44_5 => ?_, fun c44_5 => ?_⟩
      · refine B_X10_underWay_51 ?_
        try dsimp only
        try simp (disch := omega) only [m3_z, m3_f, m3_q, m3_o, u2_m3_z, u2_m3_f, u2_m3_q, u2_m3_o, pr_at, pr_off, u2_pr, u2_at, u2_off, uz_same, uz_ne, Int.reduceToNat]
        first
          | (exfalso; omega)
          | exact absurd True.intro (by assumption)
          | (refine ⟨⟨Nat.zero_le _, Nat.zero_le _, Nat.le_of_ble_eq_true rfl⟩, sh361, ?_⟩
             refine C_underWayNow hG hR (I := m3 _ z f q) ho hd (by omega) (hex (by omega) (by omega)) (fun o ho1 ho2 => ?_)
             rw [m3_z]
             have hQ3 := hQ.2.2 (by omega) o ho1 ho2
             refine af_I0 rfl rfl (by decide) ?_
             try dsimp only
             try simp (disch := omega) only [m3_z, m3_f, m3_q, m3_o, u2_m3_z, u2_m3_f, u2_m3_q, u2_m3_o, pr_at, pr_off, u2_pr, u2_at, u2_off, uz_same, uz_ne, Int.reduceToNat]
             refine B_X10_underWay_57 ?_
             try dsimp only
             try simp (disch := omega) only [m3_z, m3_f, m3_q, m3_o, u2_m3_z, u2_m3_f, u2_m3_q, u2_m3_o, pr_at, pr_off, u2_pr, u2_at, u2_off, uz_same, uz_ne, Int.reduceToNat]
             first
               | exact absurd True.intro (by assumption)
               | (exfalso; omega)
               | exact hQ.1 (by omega)
               | exact hQ.2.1 (by omega)
               | exact hQ3)
      · refine B_X10_underWay_57 ?_
        try dsimp only
        try simp (disch := omega) only [m3_z, m3_f, m3_q, m3_o, u2_m3_z, u2_m3_f, u2_m3_q, u2_m3_o, pr_at, pr_off, u2_pr, u2_at, u2_off, uz_same, uz_ne, Int.reduceToNat]
        first
          | exact absurd True.intro (by assumption)
          | (exfalso; omega)
          | exact hQ.1 (by omega)
          | exact hQ.2.1 (by omega)
          | exact hQ3
    · refine B_X10_underWay_37 ?_
      try dsimp only
      try simp (disch := omega) only [m3_z, m3_f, m3_q, m3_o, u2_m3_z, u2_m3_f, u2_m3_q, u2_m3_o, pr_at, pr_off, u2_pr, u2_at, u2_off, uz_same, uz_ne, Int.reduceToNat]
      refine ⟨sh361, ?_⟩
      try simp (disch := omega) only [m3_z, m3_f, m3_q, m3_o, u2_m3_z, u2_m3_f, u2_m3_q, u2_m3_o, pr_at, pr_off, u2_pr, u2_at, u2_off, uz_same, uz_ne, Int.reduceToNat]
      refine ⟨sh361, ?_⟩
      refine ⟨fun c44_4 => ?_, fun c44_4 => ?_⟩
      · refine B_X10_underWay_51 ?_
        try dsimp only
        try simp (disch := omega) only [m3_z, m3_f, m3_q, m3_o, u2_m3_z, u2_m3_f, u2_m3_q, u2_m3_o, pr_at, pr_off, u2_pr, u2_at, u2_off, uz_same, uz_ne, Int.reduceToNat]
        first
          | (exfalso; omega)
          | exact absurd True.intro (by assumption)
          | (refine ⟨⟨Nat.zero_le _, Nat.zero_le _, Nat.le_of_ble_eq_true rfl⟩, sh361, ?_⟩
             refine C_underWayNow hG hR (I := m3 _ z f q) ho hd (by omega) (hex (by omega) (by omega)) (fun o ho1 ho2 => ?_)
             rw [m3_z]
             have hQ3 := hQ.2.2 (by omega) o ho1 ho2
             refine af_I0 rfl rfl (by decide) ?_
             try dsimp only
             try simp (disch := omega) only [m3_z, m3_f, m3_q, m3_o, u2_m3_z, u2_m3_f, u2_m3_q, u2_m3_o, pr_at, pr_off, u2_pr, u2_at, u2_off, uz_same, uz_ne, Int.reduceToNat]
             refine B_X10_underWay_57 ?_
             try dsimp only
             try simp (disch := omega) only [m3_z, m3_f, m3_q, m3_o, u2_m3_z, u2_m3_f, u2_m3_q, u2_m3_o, pr_at, pr_off, u2_pr, u2_at, u2_off, uz_same, uz_ne, Int.reduceToNat]
             first
               | exact absurd True.intro (by assumption)
               | (exfalso; omega)
               | exact hQ.1 (by omega)
               | exact hQ.2.1 (by omega)
               | exact hQ3)
      · refine B_X10_underWay_57 ?_
        try dsimp only
        try simp (disch := omega) only [m3_z, m3_f, m3_q, m3_o, u2_m3_z, u2_m3_f, u2_m3_q, u2_m3_o, pr_at, pr_off, u2_pr, u2_at, u2_off, uz_same, uz_ne, Int.reduceToNat]
        first
          | exact absurd True.intro (by assumption)
          | (exfalso; omega)
          | exact hQ.1 (by omega)
          | exact hQ.2.1 (by omega)
          | exact hQ3
  · refine B_X10_underWay_37 ?_
    try dsimp only
    try simp (disch := omega) only [m3_z, m3_f, m3_q, m3_o, u2_m3_z, u2_m3_f, u2_m3_q, u2_m3_o, pr_at, pr_off, u2_pr, u2_at, u2_off, uz_same, uz_ne, Int.reduceToNat]
    refine ⟨sh361, ?_⟩
    try simp (disch := omega) only [m3_z, m3_f, m3_q, m3_o, u2_m3_z, u2_m3_f, u2_m3_q, u2_m3_o, pr_at, pr_off, u2_pr, u2_at, u2_off, uz_same, uz_ne, Int.reduceToNat]
    refine ⟨sh361, ?_⟩
    refine ⟨fun c44_2 => ?_, fun c44_2 => ?_⟩
    · refine B_X10_underWay_51 ?_
      try dsimp only
      try simp (disch := omega) only [m3_z, m3_f, m3_q, m3_o, u2_m3_z, u2_m3_f, u2_m3_q, u2_m3_o, pr_at, pr_off, u2_pr, u2_at, u2_off, uz_same, uz_ne, Int.reduceToNat]
      first
        | (exfalso; omega)
        | exact absurd True.intro (by assumption)
        | (refine ⟨⟨Nat.zero_le _, Nat.zero_le _, Nat.le_of_ble_eq_true rfl⟩, sh361, ?_⟩
           refine C_underWayNow hG hR (I := m3 _ z f q) ho hd (by omega) (hex (by omega) (by omega)) (fun o ho1 ho2 => ?_)
           rw [m3_z]
           have hQ3 := hQ.2.2 (by omega) o ho1 ho2
           refine af_I0 rfl rfl (by decide) ?_
           try dsimp only
           try simp (disch := omega) only [m3_z, m3_f, m3_q, m3_o, u2_m3_z, u2_m3_f, u2_m3_q, u2_m3_o, pr_at, pr_off, u2_pr, u2_at, u2_off, uz_same, uz_ne, Int.reduceToNat]
           refine B_X10_underWay_57 ?_
           try dsimp only
           try simp (disch := omega) only [m3_z, m3_f, m3_q, m3_o, u2_m3_z, u2_m3_f, u2_m3_q, u2_m3_o, pr_at, pr_off, u2_pr, u2_at, u2_off, uz_same, uz_ne, Int.reduceToNat]
           first
             | exact absurd True.intro (by assumption)
             | (exfalso; omega)
             | exact hQ.1 (by omega)
             | exact hQ.2.1 (by omega)
             | exact hQ3)
    · refine B_X10_underWay_57 ?_
      try dsimp only
      try simp (disch := omega) only [m3_z, m3_f, m3_q, m3_o, u2_m3_z, u2_m3_f, u2_m3_q, u2_m3_o, pr_at, pr_off, u2_pr, u2_at, u2_off, uz_same, uz_ne, Int.reduceToNat]
      first
        | exact absurd True.intro (by assumption)
        | (exfalso; omega)
        | exact hQ.1 (by omega)
        | exact hQ.2.1 (by omega)
        | exact hQ3
theorem C_count {G : amG} {I : Nat → Nat → Int} {z f q : Row} {R : Nat → Nat → Option Nat} {L : Nat → Nat → Int64} {x c t : Nat} {Q : amR → amH → Prop} (hG : amG0 G) (hR : RM R) {w : Int} (hn : wfN z) (ht : wfT z) (hQ : (¬ (0 ≤ w ∧ w ≤ 13) → Q (Sum.inl (some (aI 0))) (m3 (u2 I 361 0 1) z f q, R, L, SH, x, 0, 0)) ∧ ((0 ≤ w ∧ w ≤ 13) → Q (Sum.inl (some (aI (if w = 13 then I 361 2 else cntZ z w)))) (m3 (u2 I 361 0 0) z f q, R, L, SH, x, 0, 0))) : CT G sX10_count [aR (some 361), aI w] (m3 I z f q, R, L, SH, x, c, t) Q := by
  refine CT_of ok_X10_count hG (Nat.le_of_ble_eq_true rfl) ?_
  show X G mX10_count Q 0 _ [] (m3 I z f q, R, L, SH, x, 0, 0)
  refine B_X10_count_0 ?_
  try dsimp only
  try simp (disch := omega) only [m3_z, m3_f, m3_q, m3_o, u2_m3_z, u2_m3_f, u2_m3_q, u2_m3_o, pr_at, pr_off, u2_pr, u2_at, u2_off, uz_same, uz_ne, Int.reduceToNat]
  refine ⟨⟨Nat.zero_le _, Nat.zero_le _, Nat.le_of_ble_eq_true rfl⟩, trivial, ?_⟩
  refine C_within hG (fun r2 hr2 => ?_)
  refine af_I0 rfl rfl (by decide) ?_
  try dsimp only
  try simp (disch := omega) only [m3_z, m3_f, m3_q, m3_o, u2_m3_z, u2_m3_f, u2_m3_q, u2_m3_o, pr_at, pr_off, u2_pr, u2_at, u2_off, uz_same, uz_ne, Int.reduceToNat]
  refine B_X10_count_8 ?_
  try dsimp only
  try simp (disch := omega) only [m3_z, m3_f, m3_q, m3_o, u2_m3_z, u2_m3_f, u2_m3_q, u2_m3_o, pr_at, pr_off, u2_pr, u2_at, u2_off, uz_same, uz_ne, Int.reduceToNat]
  refine ⟨fun c8_1 => ?_, fun c8_1 => ?_⟩
  · refine B_X10_count_15 ?_
    try dsimp only
    try simp (disch := omega) only [m3_z, m3_f, m3_q, m3_o, u2_m3_z, u2_m3_f, u2_m3_q, u2_m3_o, pr_at, pr_off, u2_pr, u2_at, u2_off, uz_same, uz_ne, Int.reduceToNat]
    refine B_X10_count_16 ?_
    try dsimp only
    try simp (disch := omega) only [m3_z, m3_f, m3_q, m3_o, u2_m3_z, u2_m3_f, u2_m3_q, u2_m3_o, pr_at, pr_off, u2_pr, u2_at, u2_off, uz_same, uz_ne, Int.reduceToNat]
    refine ⟨sh361, ?_⟩
    try simp (disch := omega) only [m3_z, m3_f, m3_q, m3_o, u2_m3_z, u2_m3_f, u2_m3_q, u2_m3_o, pr_at, pr_off, u2_pr, u2_at, u2_off, uz_same, uz_ne, Int.reduceToNat]
    refine ⟨sh361, ?_⟩
    refine ⟨fun c23_3 => ?_, fun c23_3 => ?_⟩
    · refine B_X10_count_30 ?_
      try dsimp only
      try simp (disch := omega) only [m3_z, m3_f, m3_q, m3_o, u2_m3_z, u2_m3_f, u2_m3_q, u2_m3_o, pr_at, pr_off, u2_pr, u2_at, u2_off, uz_same, uz_ne, Int.reduceToNat]
      first
        | (exfalso; omega)
        | exact absurd True.intro (by assumption)
        | (refine ⟨⟨Nat.zero_le _, Nat.zero_le _, Nat.le_of_ble_eq_true rfl⟩, sh361, ?_⟩
           refine C_counted hG hR (I := m3 _ z f q) hn ht (by omega) (fun r3 hr3 => ?_)
           have hr3 : r3 = if w = 13 then I 361 2 else cntZ z w := hr3
           rw [hr3]
           refine af_I0 rfl rfl (by decide) ?_
           try dsimp only
           try simp (disch := omega) only [m3_z, m3_f, m3_q, m3_o, u2_m3_z, u2_m3_f, u2_m3_q, u2_m3_o, pr_at, pr_off, u2_pr, u2_at, u2_off, uz_same, uz_ne, Int.reduceToNat]
           refine B_X10_count_35 ?_
           try dsimp only
           try simp (disch := omega) only [m3_z, m3_f, m3_q, m3_o, u2_m3_z, u2_m3_f, u2_m3_q, u2_m3_o, pr_at, pr_off, u2_pr, u2_at, u2_off, uz_same, uz_ne, Int.reduceToNat]
           first
             | exact absurd True.intro (by assumption)
             | (exfalso; omega)
             | exact hQ.1 (by omega)
             | exact hQ.2 (by omega))
    · refine B_X10_count_35 ?_
      try dsimp only
      try simp (disch := omega) only [m3_z, m3_f, m3_q, m3_o, u2_m3_z, u2_m3_f, u2_m3_q, u2_m3_o, pr_at, pr_off, u2_pr, u2_at, u2_off, uz_same, uz_ne, Int.reduceToNat]
      first
        | exact absurd True.intro (by assumption)
        | (exfalso; omega)
        | exact hQ.1 (by omega)
        | exact hQ.2 (by omega)
  · refine B_X10_count_16 ?_
    try dsimp only
    try simp (disch := omega) only [m3_z, m3_f, m3_q, m3_o, u2_m3_z, u2_m3_f, u2_m3_q, u2_m3_o, pr_at, pr_off, u2_pr, u2_at, u2_off, uz_same, uz_ne, Int.reduceToNat]
    refine ⟨sh361, ?_⟩
    try simp (disch := omega) only [m3_z, m3_f, m3_q, m3_o, u2_m3_z, u2_m3_f, u2_m3_q, u2_m3_o, pr_at, pr_off, u2_pr, u2_at, u2_off, uz_same, uz_ne, Int.reduceToNat]
    refine ⟨sh361, ?_⟩
    refine ⟨fun c23_2 => ?_, fun c23_2 => ?_⟩
    · refine B_X10_count_30 ?_
      try dsimp only
      try simp (disch := omega) only [m3_z, m3_f, m3_q, m3_o, u2_m3_z, u2_m3_f, u2_m3_q, u2_m3_o, pr_at, pr_off, u2_pr, u2_at, u2_off, uz_same, uz_ne, Int.reduceToNat]
      first
        | (exfalso; omega)
        | exact absurd True.intro (by assumption)
        | (refine ⟨⟨Nat.zero_le _, Nat.zero_le _, Nat.le_of_ble_eq_true rfl⟩, sh361, ?_⟩
           refine C_counted hG hR (I := m3 _ z f q) hn ht (by omega) (fun r3 hr3 => ?_)
           have hr3 : r3 = if w = 13 then I 361 2 else cntZ z w := hr3
           rw [hr3]
           refine af_I0 rfl rfl (by decide) ?_
           try dsimp only
           try simp (disch := omega) only [m3_z, m3_f, m3_q, m3_o, u2_m3_z, u2_m3_f, u2_m3_q, u2_m3_o, pr_at, pr_off, u2_pr, u2_at, u2_off, uz_same, uz_ne, Int.reduceToNat]
           refine B_X10_count_35 ?_
           try dsimp only
           try simp (disch := omega) only [m3_z, m3_f, m3_q, m3_o, u2_m3_z, u2_m3_f, u2_m3_q, u2_m3_o, pr_at, pr_off, u2_pr, u2_at, u2_off, uz_same, uz_ne, Int.reduceToNat]
           first
             | exact absurd True.intro (by assumption)
             | (exfalso; omega)
             | exact hQ.1 (by omega)
             | exact hQ.2 (by omega))
    · refine B_X10_count_35 ?_
      try dsimp only
      try simp (disch := omega) only [m3_z, m3_f, m3_q, m3_o, u2_m3_z, u2_m3_f, u2_m3_q, u2_m3_o, pr_at, pr_off, u2_pr, u2_at, u2_off, uz_same, uz_ne, Int.reduceToNat]
      first
        | exact absurd True.intro (by assumption)
        | (exfalso; omega)
        | exact hQ.1 (by omega)
        | exact hQ.2 (by omega)
theorem C_sees {G : amG} {I : Nat → Nat → Int} {z f q : Row} {R : Nat → Nat → Option Nat} {L : Nat → Nat → Int64} {x c t : Nat} {Q : amR → amH → Prop} (hG : amG0 G) (hR : RM R) {v w : Int} (hh : wfH z) (hQ : (¬ ((0 ≤ v ∧ v ≤ 95) ∧ 0 ≤ w ∧ w ≤ 95) → Q (Sum.inl (some (aI 0))) (m3 (u2 I 361 0 1) z f q, R, L, SH, x, 0, 0)) ∧ (((0 ≤ v ∧ v ≤ 95) ∧ 0 ≤ w ∧ w ≤ 95) → Q (Sum.inl (some (aI (seeI z v w)))) (m3 (u2 I 361 0 0) z f q, R, L, SH, x, 0, 0))) : CT G sX10_sees [aR (some 361), aI v, aI w] (m3 I z f q, R, L, SH, x, c, t) Q := by
  refine CT_of ok_X10_sees hG (Nat.le_of_ble_eq_true rfl) ?_
  show X G mX10_sees Q 0 _ [] (m3 I z f q, R, L, SH, x, 0, 0)
  refine B_X10_sees_0 ?_
  try dsimp only
  try simp (disch := omega) only [m3_z, m3_f, m3_q, m3_o, u2_m3_z, u2_m3_f, u2_m3_q, u2_m3_o, pr_at, pr_off, u2_pr, u2_at, u2_off, uz_same, uz_ne, Int.reduceToNat]
  refine ⟨⟨Nat.zero_le _, Nat.zero_le _, Nat.le_of_ble_eq_true rfl⟩, trivial, ?_⟩
  refine C_isCell hG (fun r2 hr2 => ?_)
  refine af_I0 rfl rfl (by decide) ?_
  try dsimp only
  try simp (disch := omega) only [m3_z, m3_f, m3_q, m3_o, u2_m3_z, u2_m3_f, u2_m3_q, u2_m3_o, pr_at, pr_off, u2_pr, u2_at, u2_off, uz_same, uz_ne, Int.reduceToNat]
  refine B_X10_sees_5 ?_
  try dsimp only
  try simp (disch := omega) only [m3_z, m3_f, m3_q, m3_o, u2_m3_z, u2_m3_f, u2_m3_q, u2_m3_o, pr_at, pr_off, u2_pr, u2_at, u2_off, uz_same, uz_ne, Int.reduceToNat]
  refine ⟨fun c5_1 => ?_, fun c5_1 => ?_⟩
  · refine B_X10_sees_19 ?_
    try dsimp only
    try simp (disch := omega) only [m3_z, m3_f, m3_q, m3_o, u2_m3_z, u2_m3_f, u2_m3_q, u2_m3_o, pr_at, pr_off, u2_pr, u2_at, u2_off, uz_same, uz_ne, Int.reduceToNat]
    refine B_X10_sees_20 ?_
    try dsimp only
    try simp (disch := omega) only [m3_z, m3_f, m3_q, m3_o, u2_m3_z, u2_m3_f, u2_m3_q, u2_m3_o, pr_at, pr_off, u2_pr, u2_at, u2_off, uz_same, uz_ne, Int.reduceToNat]
    refine ⟨sh361, ?_⟩
    try simp (disch := omega) only [m3_z, m3_f, m3_q, m3_o, u2_m3_z, u2_m3_f, u2_m3_q, u2_m3_o, pr_at, pr_off, u2_pr, u2_at, u2_off, uz_same, uz_ne, Int.reduceToNat]
    refine ⟨sh361, ?_⟩
    refine ⟨fun c27_3 => ?_, fun c27_3 => ?_⟩
    · refine B_X10_sees_43 ?_
      try dsimp only
      try simp (disch := omega) only [m3_z, m3_f, m3_q, m3_o, u2_m3_z, u2_m3_f, u2_m3_q, u2_m3_o, pr_at, pr_off, u2_pr, u2_at, u2_off, uz_same, uz_ne, Int.reduceToNat]
      refine B_X10_sees_44 ?_
      try dsimp only
      try simp (disch := omega) only [m3_z, m3_f, m3_q, m3_o, u2_m3_z, u2_m3_f, u2_m3_q, u2_m3_o, pr_at, pr_off, u2_pr, u2_at, u2_off, uz_same, uz_ne, Int.reduceToNat]
      refine ⟨by first | exact Or.inl rfl | exact Or.inr rfl | exact Or.inl trivial | exact Or.inr trivial | omega, ?_⟩
      first
        | exact absurd True.intro (by assumption)
        | (exfalso; omega)
        | exact hQ.1 (by omega)
        | (rw [show seeI z v w = 1 by omega] at hQ2; exact hQ2)
        | (rw [show seeI z v w = 0 by omega] at hQ2; exact hQ2)
    · first
        | (exfalso; omega)
        | exact absurd True.intro (by assumption)
        | (refine ⟨⟨Nat.zero_le _, Nat.zero_le _, Nat.le_of_ble_eq_true rfl⟩, sh361, ?_⟩
           refine C_isSeen hG hR (I := m3 _ z f q) hh (by unfold isC; omega) (by unfold isC; omega) (fun r4 hr4 => ?_)
           have hs4 : (seeI z v w = 1 ∧ r4 = 1) ∨ (seeI z v w = 0 ∧ r4 = 0) := hr4.imp (fun q => ⟨seeI_one q.1, q.2⟩) (fun q => ⟨seeI_zero q.1, q.2⟩)
           have hQ2 := hQ.2 (by omega)
           refine af_I0 rfl rfl (by decide) ?_
           try dsimp only
           try simp (disch := omega) only [m3_z, m3_f, m3_q, m3_o, u2_m3_z, u2_m3_f, u2_m3_q, u2_m3_o, pr_at, pr_off, u2_pr, u2_at, u2_off, uz_same, uz_ne, Int.reduceToNat]
           refine B_X10_sees_36 ?_
           try dsimp only
           try simp (disch := omega) only [m3_z, m3_f, m3_q, m3_o, u2_m3_z, u2_m3_f, u2_m3_q, u2_m3_o, pr_at, pr_off, u2_pr, u2_at, u2_off, uz_same, uz_ne, Int.reduceToNat]
           refine ⟨fun c36_4 => ?_, fun c36_4 => ?_⟩
           · refine B_X10_sees_43 ?_
             try dsimp only
             try simp (disch := omega) only [m3_z, m3_f, m3_q, m3_o, u2_m3_z, u2_m3_f, u2_m3_q, u2_m3_o, pr_at, pr_off, u2_pr, u2_at, u2_off, uz_same, uz_ne, Int.reduceToNat]
             refine B_X10_sees_44 ?_
             try dsimp only
             try simp (disch := omega) only [m3_z, m3_f, m3_q, m3_o, u2_m3_z, u2_m3_f, u2_m3_q, u2_m3_o, pr_at, pr_off, u2_pr, u2_at, u2_off, uz_same, uz_ne, Int.reduceToNat]
             refine ⟨by first | exact Or.inl rfl | exact Or.inr rfl | exact Or.inl trivial | exact Or.inr trivial | omega, ?_⟩
             first
               | exact absurd True.intro (by assumption)
               | (exfalso; omega)
               | exact hQ.1 (by omega)
               | (rw [show seeI z v w = 1 by omega] at hQ2; exact hQ2)
               | (rw [show seeI z v w = 0 by omega] at hQ2; exact hQ2)
           · refine B_X10_sees_44 ?_
             try dsimp only
             try simp (disch := omega) only [m3_z, m3_f, m3_q, m3_o, u2_m3_z, u2_m3_f, u2_m3_q, u2_m3_o, pr_at, pr_off, u2_pr, u2_at, u2_off, uz_same, uz_ne, Int.reduceToNat]
             refine ⟨by first | exact Or.inl rfl | exact Or.inr rfl | exact Or.inl trivial | exact Or.inr trivial | omega, ?_⟩
             first
               | exact absurd True.intro (by assumption)
               | (exfalso; omega)
               | exact hQ.1 (by omega)
               | (rw [show seeI z v w = 1 by omega] at hQ2; exact hQ2)
               | (rw [show seeI z v w = 0 by omega] at hQ2; exact hQ2))
  · refine ⟨⟨Nat.zero_le _, Nat.zero_le _, Nat.le_of_ble_eq_true rfl⟩, trivial, ?_⟩
    refine C_isCell hG (fun r9 hr9 => ?_)
    refine af_I0 rfl rfl (by decide) ?_
    try dsimp only
    try simp (disch := omega) only [m3_z, m3_f, m3_q, m3_o, u2_m3_z, u2_m3_f, u2_m3_q, u2_m3_o, pr_at, pr_off, u2_pr, u2_at, u2_off, uz_same, uz_ne, Int.reduceToNat]
    refine B_X10_sees_12 ?_
    try dsimp only
    try simp (disch := omega) only [m3_z, m3_f, m3_q, m3_o, u2_m3_z, u2_m3_f, u2_m3_q, u2_m3_o, pr_at, pr_off, u2_pr, u2_at, u2_off, uz_same, uz_ne, Int.reduceToNat]
    refine ⟨fun c12_2 => ?_, fun c12_2 => ?_⟩
    · refine B_X10_sees_19 ?_
      try dsimp only
      try simp (disch := omega) only [m3_z, m3_f, m3_q, m3_o, u2_m3_z, u2_m3_f, u2_m3_q, u2_m3_o, pr_at, pr_off, u2_pr, u2_at, u2_off, uz_same, uz_ne, Int.reduceToNat]
      refine B_X10_sees_20 ?_
      try dsimp only
      try simp (disch := omega) only [m3_z, m3_f, m3_q, m3_o, u2_m3_z, u2_m3_f, u2_m3_q, u2_m3_o, pr_at, pr_off, u2_pr, u2_at, u2_off, uz_same, uz_ne, Int.reduceToNat]
      refine ⟨sh361, ?_⟩
      try simp (disch := omega) only [m3_z, m3_f, m3_q, m3_o, u2_m3_z, u2_m3_f, u2_m3_q, u2_m3_o, pr_at, pr_off, u2_pr, u2_at, u2_off, uz_same, uz_ne, Int.reduceToNat]
      refine ⟨sh361, ?_⟩
      refine ⟨fun c27_4 => ?_, fun c27_4 => ?_⟩
      · refine B_X10_sees_43 ?_
        try dsimp only
        try simp (disch := omega) only [m3_z, m3_f, m3_q, m3_o, u2_m3_z, u2_m3_f, u2_m3_q, u2_m3_o, pr_at, pr_off, u2_pr, u2_at, u2_off, uz_same, uz_ne, Int.reduceToNat]
        refine B_X10_sees_44 ?_
        try dsimp only
        try simp (disch := omega) only [m3_z, m3_f, m3_q, m3_o, u2_m3_z, u2_m3_f, u2_m3_q, u2_m3_o, pr_at, pr_off, u2_pr, u2_at, u2_off, uz_same, uz_ne, Int.reduceToNat]
        refine ⟨by first | exact Or.inl rfl | exact Or.inr rfl | exact Or.inl trivial | exact Or.inr trivial | omega, ?_⟩
        first
          | exact absurd True.intro (by assumption)
          | (exfalso; omega)
          | exact hQ.1 (by omega)
          | (rw [show seeI z v w = 1 by omega] at hQ2; exact hQ2)
          | (rw [show seeI z v w = 0 by omega] at hQ2; exact hQ2)
      · first
          | (exfalso; omega)
          | exact absurd True.intro (by assumption)
          | (refine ⟨⟨Nat.zero_le _, Nat.zero_le _, Nat.le_of_ble_eq_true rfl⟩, sh361, ?_⟩
             refine C_isSeen hG hR (I := m3 _ z f q) hh (by unfold isC; omega) (by unfold isC; omega) (fun r4 hr4 => ?_)
             have hs4 : (seeI z v w = 1 ∧ r4 = 1) ∨ (seeI z v w = 0 ∧ r4 = 0) := hr4.imp (fun q => ⟨seeI_one q.1, q.2⟩) (fun q => ⟨seeI_zero q.1, q.2⟩)
             have hQ2 := hQ.2 (by omega)
             refine af_I0 rfl rfl (by decide) ?_
             try dsimp only
             try simp (disch := omega) only [m3_z, m3_f, m3_q, m3_o, u2_m3_z, u2_m3_f, u2_m3_q, u2_m3_o, pr_at, pr_off, u2_pr, u2_at, u2_off, uz_same, uz_ne, Int.reduceToNat]
             refine B_X10_sees_36 ?_
             try dsimp only
             try simp (disch := omega) only [m3_z, m3_f, m3_q, m3_o, u2_m3_z, u2_m3_f, u2_m3_q, u2_m3_o, pr_at, pr_off, u2_pr, u2_at, u2_off, uz_same, uz_ne, Int.reduceToNat]
             refine ⟨fun c36_5 => ?_, fun c36_5 => ?_⟩
             · refine B_X10_sees_43 ?_
               try dsimp only
               try simp (disch := omega) only [m3_z, m3_f, m3_q, m3_o, u2_m3_z, u2_m3_f, u2_m3_q, u2_m3_o, pr_at, pr_off, u2_pr, u2_at, u2_off, uz_same, uz_ne, Int.reduceToNat]
               refine B_X10_sees_44 ?_
               try dsimp only
               try simp (disch := omega) only [m3_z, m3_f, m3_q, m3_o, u2_m3_z, u2_m3_f, u2_m3_q, u2_m3_o, pr_at, pr_off, u2_pr, u2_at, u2_off, uz_same, uz_ne, Int.reduceToNat]
               refine ⟨by first | exact Or.inl rfl | exact Or.inr rfl | exact Or.inl trivial | exact Or.inr trivial | omega, ?_⟩
               first
                 | exact absurd True.intro (by assumption)
                 | (exfalso; omega)
                 | exact hQ.1 (by omega)
                 | (rw [show seeI z v w = 1 by omega] at hQ2; exact hQ2)
                 | (rw [show seeI z v w = 0 by omega] at hQ2; exact hQ2)
             · refine B_X10_sees_44 ?_
               try dsimp only
               try simp (disch := omega) only [m3_z, m3_f, m3_q, m3_o, u2_m3_z, u2_m3_f, u2_m3_q, u2_m3_o, pr_at, pr_off, u2_pr, u2_at, u2_off, uz_same, uz_ne, Int.reduceToNat]
               refine ⟨by first | exact Or.inl rfl | exact Or.inr rfl | exact Or.inl trivial | exact Or.inr trivial | omega, ?_⟩
               first
                 | exact absurd True.intro (by assumption)
                 | (exfalso; omega)
                 | exact hQ.1 (by omega)
                 | (rw [show seeI z v w = 1 by omega] at hQ2; exact hQ2)
                 | (rw [show seeI z v w = 0 by omega] at hQ2; exact hQ2))
    · refine B_X10_sees_20 ?_
      try dsimp only
      try simp (disch := omega) only [m3_z, m3_f, m3_q, m3_o, u2_m3_z, u2_m3_f, u2_m3_q, u2_m3_o, pr_at, pr_off, u2_pr, u2_at, u2_off, uz_same, uz_ne, Int.reduceToNat]
      refine ⟨sh361, ?_⟩
      try simp (disch := omega) only [m3_z, m3_f, m3_q, m3_o, u2_m3_z, u2_m3_f, u2_m3_q, u2_m3_o, pr_at, pr_off, u2_pr, u2_at, u2_off, uz_same, uz_ne, Int.reduceToNat]
      refine ⟨sh361, ?_⟩
      refine ⟨fun c27_3 => ?_, fun c27_3 => ?_⟩
      · refine B_X10_sees_43 ?_
        try dsimp only
        try simp (disch := omega) only [m3_z, m3_f, m3_q, m3_o, u2_m3_z, u2_m3_f, u2_m3_q, u2_m3_o, pr_at, pr_off, u2_pr, u2_at, u2_off, uz_same, uz_ne, Int.reduceToNat]
        refine B_X10_sees_44 ?_
        try dsimp only
        try simp (disch := omega) only [m3_z, m3_f, m3_q, m3_o, u2_m3_z, u2_m3_f, u2_m3_q, u2_m3_o, pr_at, pr_off, u2_pr, u2_at, u2_off, uz_same, uz_ne, Int.reduceToNat]
        refine ⟨by first | exact Or.inl rfl | exact Or.inr rfl | exact Or.inl trivial | exact Or.inr trivial | omega, ?_⟩
        first
          | exact absurd True.intro (by assumption)
          | (exfalso; omega)
          | exact hQ.1 (by omega)
          | (rw [show seeI z v w = 1 by omega] at hQ2; exact hQ2)
          | (rw [show seeI z v w = 0 by omega] at hQ2; exact hQ2)
      · first
          | (exfalso; omega)
          | exact absurd True.intro (by assumption)
          | (refine ⟨⟨Nat.zero_le _, Nat.zero_le _, Nat.le_of_ble_eq_true rfl⟩, sh361, ?_⟩
             refine C_isSeen hG hR (I := m3 _ z f q) hh (by unfold isC; omega) (by unfold isC; omega) (fun r4 hr4 => ?_)
             have hs4 : (seeI z v w = 1 ∧ r4 = 1) ∨ (seeI z v w = 0 ∧ r4 = 0) := hr4.imp (fun q => ⟨seeI_one q.1, q.2⟩) (fun q => ⟨seeI_zero q.1, q.2⟩)
             have hQ2 := hQ.2 (by omega)
             refine af_I0 rfl rfl (by decide) ?_
             try dsimp only
             try simp (disch := omega) only [m3_z, m3_f, m3_q, m3_o, u2_m3_z, u2_m3_f, u2_m3_q, u2_m3_o, pr_at, pr_off, u2_pr, u2_at, u2_off, uz_same, uz_ne, Int.reduceToNat]
             refine B_X10_sees_36 ?_
             try dsimp only
             try simp (disch := omega) only [m3_z, m3_f, m3_q, m3_o, u2_m3_z, u2_m3_f, u2_m3_q, u2_m3_o, pr_at, pr_off, u2_pr, u2_at, u2_off, uz_same, uz_ne, Int.reduceToNat]
             refine ⟨fun c36_4 => ?_, fun c36_4 => ?_⟩
             · refine B_X10_sees_43 ?_
               try dsimp only
               try simp (disch := omega) only [m3_z, m3_f, m3_q, m3_o, u2_m3_z, u2_m3_f, u2_m3_q, u2_m3_o, pr_at, pr_off, u2_pr, u2_at, u2_off, uz_same, uz_ne, Int.reduceToNat]
               refine B_X10_sees_44 ?_
               try dsimp only
               try simp (disch := omega) only [m3_z, m3_f, m3_q, m3_o, u2_m3_z, u2_m3_f, u2_m3_q, u2_m3_o, pr_at, pr_off, u2_pr, u2_at, u2_off, uz_same, uz_ne, Int.reduceToNat]
               refine ⟨by first | exact Or.inl rfl | exact Or.inr rfl | exact Or.inl trivial | exact Or.inr trivial | omega, ?_⟩
               first
                 | exact absurd True.intro (by assumption)
                 | (exfalso; omega)
                 | exact hQ.1 (by omega)
                 | (rw [show seeI z v w = 1 by omega] at hQ2; exact hQ2)
                 | (rw [show seeI z v w = 0 by omega] at hQ2; exact hQ2)
             · refine B_X10_sees_44 ?_
               try dsimp only
               try simp (disch := omega) only [m3_z, m3_f, m3_q, m3_o, u2_m3_z, u2_m3_f, u2_m3_q, u2_m3_o, pr_at, pr_off, u2_pr, u2_at, u2_off, uz_same, uz_ne, Int.reduceToNat]
               refine ⟨by first | exact Or.inl rfl | exact Or.inr rfl | exact Or.inl trivial | exact Or.inr trivial | omega, ?_⟩
               first
                 | exact absurd True.intro (by assumption)
                 | (exfalso; omega)
                 | exact hQ.1 (by omega)
                 | (rw [show seeI z v w = 1 by omega] at hQ2; exact hQ2)
                 | (rw [show seeI z v w = 0 by omega] at hQ2; exact hQ2))
theorem C_distance {G : amG} {I : Nat → Nat → Int} {z f q : Row} {R : Nat → Nat → Option Nat} {L : Nat → Nat → Int64} {x c t : Nat} {Q : amR → amH → Prop} (hG : amG0 G) (hR : RM R) {v w : Int} (hh : wfH z) (hn : wfN z) (hQ : (¬ ((0 ≤ v ∧ v ≤ 95) ∧ 0 ≤ w ∧ w ≤ 95) → Q (Sum.inl (some (aI 0))) (m3 (u2 I 361 0 1) z f q, R, L, SH, x, 0, 0)) ∧ (((0 ≤ v ∧ v ≤ 95) ∧ 0 ≤ w ∧ w ≤ 95) → ∀ f q : Row, Q (Sum.inl (some (aI (dS z v w)))) (m3 (u2 I 361 0 0) z f q, R, L, SH, x, 0, 0))) : CT G sX10_distance [aR (some 361), aI v, aI w] (m3 I z f q, R, L, SH, x, c, t) Q := by
  refine CT_of ok_X10_distance hG (Nat.le_of_ble_eq_true rfl) ?_
  show X G mX10_distance Q 0 _ [] (m3 I z f q, R, L, SH, x, 0, 0)
  refine B_X10_distance_0 ?_
  try dsimp only
  try simp (disch := omega) only [m3_z, m3_f, m3_q, m3_o, u2_m3_z, u2_m3_f, u2_m3_q, u2_m3_o, pr_at, pr_off, u2_pr, u2_at, u2_off, uz_same, uz_ne, Int.reduceToNat]
  refine ⟨⟨Nat.zero_le _, Nat.zero_le _, Nat.le_of_ble_eq_true rfl⟩, trivial, ?_⟩
  refine C_isCell hG (fun r2 hr2 => ?_)
  refine af_I0 rfl rfl (by decide) ?_
  try dsimp only
  try simp (disch := omega) only [m3_z, m3_f, m3_q, m3_o, u2_m3_z, u2_m3_f, u2_m3_q, u2_m3_o, pr_at, pr_off, u2_pr, u2_at, u2_off, uz_same, uz_ne, Int.reduceToNat]
  refine B_X10_distance_5 ?_
  try dsimp only
  try simp (disch := omega) only [m3_z, m3_f, m3_q, m3_o, u2_m3_z, u2_m3_f, u2_m3_q, u2_m3_o, pr_at, pr_off, u2_pr, u2_at, u2_off, uz_same, uz_ne, Int.reduceToNat]
  refine ⟨fun c5_1 => ?_, fun c5_1 => ?_⟩
  · refine B_X10_distance_19 ?_
    try dsimp only
    try simp (disch := omega) only [m3_z, m3_f, m3_q, m3_o, u2_m3_z, u2_m3_f, u2_m3_q, u2_m3_o, pr_at, pr_off, u2_pr, u2_at, u2_off, uz_same, uz_ne, Int.reduceToNat]
    refine B_X10_distance_20 ?_
    try dsimp only
    try simp (disch := omega) only [m3_z, m3_f, m3_q, m3_o, u2_m3_z, u2_m3_f, u2_m3_q, u2_m3_o, pr_at, pr_off, u2_pr, u2_at, u2_off, uz_same, uz_ne, Int.reduceToNat]
    refine ⟨sh361, ?_⟩
    try simp (disch := omega) only [m3_z, m3_f, m3_q, m3_o, u2_m3_z, u2_m3_f, u2_m3_q, u2_m3_o, pr_at, pr_off, u2_pr, u2_at, u2_off, uz_same, uz_ne, Int.reduceToNat]
    refine ⟨sh361, ?_⟩
    refine ⟨fun c27_3 => ?_, fun c27_3 => ?_⟩
    · refine B_X10_distance_34 ?_
      try dsimp only
      try simp (disch := omega) only [m3_z, m3_f, m3_q, m3_o, u2_m3_z, u2_m3_f, u2_m3_q, u2_m3_o, pr_at, pr_off, u2_pr, u2_at, u2_off, uz_same, uz_ne, Int.reduceToNat]
      first
        | (exfalso; omega)
        | exact absurd True.intro (by assumption)
        | (refine ⟨⟨Nat.zero_le _, Nat.zero_le _, Nat.le_of_ble_eq_true rfl⟩, sh361, ?_⟩
           refine C_distanceOf hG hR hh hn (by unfold isC; omega) (by unfold isC; omega) (fun f2 q2 => ?_)
           refine af_I0 rfl rfl (by decide) ?_
           try dsimp only
           try simp (disch := omega) only [m3_z, m3_f, m3_q, m3_o, u2_m3_z, u2_m3_f, u2_m3_q, u2_m3_o, pr_at, pr_off, u2_pr, u2_at, u2_off, uz_same, uz_ne, Int.reduceToNat]
           refine B_X10_distance_40 ?_
           try dsimp only
           try simp (disch := omega) only [m3_z, m3_f, m3_q, m3_o, u2_m3_z, u2_m3_f, u2_m3_q, u2_m3_o, pr_at, pr_off, u2_pr, u2_at, u2_off, uz_same, uz_ne, Int.reduceToNat]
           first
             | exact absurd True.intro (by assumption)
             | (exfalso; omega)
             | (have hb : ¬ ((0 ≤ v ∧ v ≤ 95) ∧ 0 ≤ w ∧ w ≤ 95) := by omega
                exact hQ.1 hb)
             | exact hQ.2 (by omega) _ _)
    · refine B_X10_distance_40 ?_
      try dsimp only
      try simp (disch := omega) only [m3_z, m3_f, m3_q, m3_o, u2_m3_z, u2_m3_f, u2_m3_q, u2_m3_o, pr_at, pr_off, u2_pr, u2_at, u2_off, uz_same, uz_ne, Int.reduceToNat]
      first
        | exact absurd True.intro (by assumption)
        | (exfalso; omega)
        | (have hb : ¬ ((0 ≤ v ∧ v ≤ 95) ∧ 0 ≤ w ∧ w ≤ 95) := by omega
           exact hQ.1 hb)
        | exact hQ.2 (by omega) _ _
  · refine ⟨⟨Nat.zero_le _, Nat.zero_le _, Nat.le_of_ble_eq_true rfl⟩, trivial, ?_⟩
    refine C_isCell hG (fun r9 hr9 => ?_)
    refine af_I0 rfl rfl (by decide) ?_
    try dsimp only
    try simp (disch := omega) only [m3_z, m3_f, m3_q, m3_o, u2_m3_z, u2_m3_f, u2_m3_q, u2_m3_o, pr_at, pr_off, u2_pr, u2_at, u2_off, uz_same, uz_ne, Int.reduceToNat]
    refine B_X10_distance_12 ?_
    try dsimp only
    try simp (disch := omega) only [m3_z, m3_f, m3_q, m3_o, u2_m3_z, u2_m3_f, u2_m3_q, u2_m3_o, pr_at, pr_off, u2_pr, u2_at, u2_off, uz_same, uz_ne, Int.reduceToNat]
    refine ⟨fun c12_2 => ?_, fun c12_2 => ?_⟩
    · refine B_X10_distance_19 ?_
      try dsimp only
      try simp (disch := omega) only [m3_z, m3_f, m3_q, m3_o, u2_m3_z, u2_m3_f, u2_m3_q, u2_m3_o, pr_at, pr_off, u2_pr, u2_at, u2_off, uz_same, uz_ne, Int.reduceToNat]
      refine B_X10_distance_20 ?_
      try dsimp only
      try simp (disch := omega) only [m3_z, m3_f, m3_q, m3_o, u2_m3_z, u2_m3_f, u2_m3_q, u2_m3_o, pr_at, pr_off, u2_pr, u2_at, u2_off, uz_same, uz_ne, Int.reduceToNat]
      refine ⟨sh361, ?_⟩
      try simp (disch := omega) only [m3_z, m3_f, m3_q, m3_o, u2_m3_z, u2_m3_f, u2_m3_q, u2_m3_o, pr_at, pr_off, u2_pr, u2_at, u2_off, uz_same, uz_ne, Int.reduceToNat]
      refine ⟨sh361, ?_⟩
      refine ⟨fun c27_4 => ?_, fun c27_4 => ?_⟩
      · refine B_X10_distance_34 ?_
        try dsimp only
        try simp (disch := omega) only [m3_z, m3_f, m3_q, m3_o, u2_m3_z, u2_m3_f, u2_m3_q, u2_m3_o, pr_at, pr_off, u2_pr, u2_at, u2_off, uz_same, uz_ne, Int.reduceToNat]
        first
          | (exfalso; omega)
          | exact absurd True.intro (by assumption)
          | (refine ⟨⟨Nat.zero_le _, Nat.zero_le _, Nat.le_of_ble_eq_true rfl⟩, sh361, ?_⟩
             refine C_distanceOf hG hR hh hn (by unfold isC; omega) (by unfold isC; omega) (fun f2 q2 => ?_)
             refine af_I0 rfl rfl (by decide) ?_
             try dsimp only
             try simp (disch := omega) only [m3_z, m3_f, m3_q, m3_o, u2_m3_z, u2_m3_f, u2_m3_q, u2_m3_o, pr_at, pr_off, u2_pr, u2_at, u2_off, uz_same, uz_ne, Int.reduceToNat]
             refine B_X10_distance_40 ?_
             try dsimp only
             try simp (disch := omega) only [m3_z, m3_f, m3_q, m3_o, u2_m3_z, u2_m3_f, u2_m3_q, u2_m3_o, pr_at, pr_off, u2_pr, u2_at, u2_off, uz_same, uz_ne, Int.reduceToNat]
             first
               | exact absurd True.intro (by assumption)
               | (exfalso; omega)
               | (have hb : ¬ ((0 ≤ v ∧ v ≤ 95) ∧ 0 ≤ w ∧ w ≤ 95) := by omega
                  exact hQ.1 hb)
               | exact hQ.2 (by omega) _ _)
      · refine B_X10_distance_40 ?_
        try dsimp only
        try simp (disch := omega) only [m3_z, m3_f, m3_q, m3_o, u2_m3_z, u2_m3_f, u2_m3_q, u2_m3_o, pr_at, pr_off, u2_pr, u2_at, u2_off, uz_same, uz_ne, Int.reduceToNat]
        first
          | exact absurd True.intro (by assumption)
          | (exfalso; omega)
          | (have hb : ¬ ((0 ≤ v ∧ v ≤ 95) ∧ 0 ≤ w ∧ w ≤ 95) := by omega
             exact hQ.1 hb)
          | exact hQ.2 (by omega) _ _
    · refine B_X10_distance_20 ?_
      try dsimp only
      try simp (disch := omega) only [m3_z, m3_f, m3_q, m3_o, u2_m3_z, u2_m3_f, u2_m3_q, u2_m3_o, pr_at, pr_off, u2_pr, u2_at, u2_off, uz_same, uz_ne, Int.reduceToNat]
      refine ⟨sh361, ?_⟩
      try simp (disch := omega) only [m3_z, m3_f, m3_q, m3_o, u2_m3_z, u2_m3_f, u2_m3_q, u2_m3_o, pr_at, pr_off, u2_pr, u2_at, u2_off, uz_same, uz_ne, Int.reduceToNat]
      refine ⟨sh361, ?_⟩
      refine ⟨fun c27_3 => ?_, fun c27_3 => ?_⟩
      · refine B_X10_distance_34 ?_
        try dsimp only
        try simp (disch := omega) only [m3_z, m3_f, m3_q, m3_o, u2_m3_z, u2_m3_f, u2_m3_q, u2_m3_o, pr_at, pr_off, u2_pr, u2_at, u2_off, uz_same, uz_ne, Int.reduceToNat]
        first
          | (exfalso; omega)
          | exact absurd True.intro (by assumption)
          | (refine ⟨⟨Nat.zero_le _, Nat.zero_le _, Nat.le_of_ble_eq_true rfl⟩, sh361, ?_⟩
             refine C_distanceOf hG hR hh hn (by unfold isC; omega) (by unfold isC; omega) (fun f2 q2 => ?_)
             refine af_I0 rfl rfl (by decide) ?_
             try dsimp only
             try simp (disch := omega) only [m3_z, m3_f, m3_q, m3_o, u2_m3_z, u2_m3_f, u2_m3_q, u2_m3_o, pr_at, pr_off, u2_pr, u2_at, u2_off, uz_same, uz_ne, Int.reduceToNat]
             refine B_X10_distance_40 ?_
             try dsimp only
             try simp (disch := omega) only [m3_z, m3_f, m3_q, m3_o, u2_m3_z, u2_m3_f, u2_m3_q, u2_m3_o, pr_at, pr_off, u2_pr, u2_at, u2_off, uz_same, uz_ne, Int.reduceToNat]
             first
               | exact absurd True.intro (by assumption)
               | (exfalso; omega)
               | (have hb : ¬ ((0 ≤ v ∧ v ≤ 95) ∧ 0 ≤ w ∧ w ≤ 95) := by omega
                  exact hQ.1 hb)
               | exact hQ.2 (by omega) _ _)
      · refine B_X10_distance_40 ?_
        try dsimp only
        try simp (disch := omega) only [m3_z, m3_f, m3_q, m3_o, u2_m3_z, u2_m3_f, u2_m3_q, u2_m3_o, pr_at, pr_off, u2_pr, u2_at, u2_off, uz_same, uz_ne, Int.reduceToNat]
        first
          | exact absurd True.intro (by assumption)
          | (exfalso; omega)
          | (have hb : ¬ ((0 ≤ v ∧ v ≤ 95) ∧ 0 ≤ w ∧ w ≤ 95) := by omega
             exact hQ.1 hb)
          | exact hQ.2 (by omega) _ _
theorem C_why {G : amG} {I : Nat → Nat → Int} {z f q : Row} {R : Nat → Nat → Option Nat} {L : Nat → Nat → Int64} {x c t : Nat} {Q : amR → amH → Prop} (hG : amG0 G) (hR : RM R) {k : Int} (hh : wfH z) (hn : wfN z) (ht : wfT z) (hg : wfG z) (hQ : (¬ (0 ≤ k ∧ k < z 98) → Q (Sum.inl (some (aI 0))) (m3 (u2 I 361 0 1) z f q, R, L, SH, x, 0, 0)) ∧ ((0 ≤ k ∧ k < z 98) → ∀ f q : Row, Q (Sum.inl (some (aI (whyN z k.toNat)))) (m3 (u2 I 361 0 0) z f q, R, L, SH, x, 0, 0))) : CT G sX10_why [aR (some 361), aI k] (m3 I z f q, R, L, SH, x, c, t) Q := by
  refine CT_of ok_X10_why hG (Nat.le_of_ble_eq_true rfl) ?_
  show X G mX10_why Q 0 _ [] (m3 I z f q, R, L, SH, x, 0, 0)
  have hn1 := hn.1
  have hn2 := hn.2
  refine B_X10_why_0 ?_
  try dsimp only
  try simp (disch := omega) only [m3_z, m3_f, m3_q, m3_o, u2_m3_z, u2_m3_f, u2_m3_q, u2_m3_o, pr_at, pr_off, u2_pr, u2_at, u2_off, uz_same, uz_ne, Int.reduceToNat]
  refine ⟨⟨Nat.zero_le _, Nat.zero_le _, Nat.le_of_ble_eq_true rfl⟩, sh361, ?_⟩
  refine C_isTroop hG hR (I := m3 I z f q) hn (fun r hr => ?_)
  have hr : ((0 ≤ k ∧ k < z 98) ∧ r = 1) ∨ (¬ (0 ≤ k ∧ k < z 98) ∧ r = 0) := hr
  refine af_I0 rfl rfl (by decide) ?_
  try dsimp only
  try simp (disch := omega) only [m3_z, m3_f, m3_q, m3_o, u2_m3_z, u2_m3_f, u2_m3_q, u2_m3_o, pr_at, pr_off, u2_pr, u2_at, u2_off, uz_same, uz_ne, Int.reduceToNat]
  refine B_X10_why_6 ?_
  try dsimp only
  try simp (disch := omega) only [m3_z, m3_f, m3_q, m3_o, u2_m3_z, u2_m3_f, u2_m3_q, u2_m3_o, pr_at, pr_off, u2_pr, u2_at, u2_off, uz_same, uz_ne, Int.reduceToNat]
  refine ⟨fun c6_1 => ?_, fun c6_1 => ?_⟩
  · refine B_X10_why_13 ?_
    try dsimp only
    try simp (disch := omega) only [m3_z, m3_f, m3_q, m3_o, u2_m3_z, u2_m3_f, u2_m3_q, u2_m3_o, pr_at, pr_off, u2_pr, u2_at, u2_off, uz_same, uz_ne, Int.reduceToNat]
    refine B_X10_why_14 ?_
    try dsimp only
    try simp (disch := omega) only [m3_z, m3_f, m3_q, m3_o, u2_m3_z, u2_m3_f, u2_m3_q, u2_m3_o, pr_at, pr_off, u2_pr, u2_at, u2_off, uz_same, uz_ne, Int.reduceToNat]
    refine ⟨sh361, ?_⟩
    try simp (disch := omega) only [m3_z, m3_f, m3_q, m3_o, u2_m3_z, u2_m3_f, u2_m3_q, u2_m3_o, pr_at, pr_off, u2_pr, u2_at, u2_off, uz_same, uz_ne, Int.reduceToNat]
    refine ⟨sh361, ?_⟩
    refine ⟨fun c21_3 => ?_, fun c21_3 => ?_⟩
    · refine B_X10_why_28 ?_
      try dsimp only
      try simp (disch := omega) only [m3_z, m3_f, m3_q, m3_o, u2_m3_z, u2_m3_f, u2_m3_q, u2_m3_o, pr_at, pr_off, u2_pr, u2_at, u2_off, uz_same, uz_ne, Int.reduceToNat]
      first
        | (exfalso; omega)
        | exact absurd True.intro (by assumption)
        | (refine ⟨⟨Nat.zero_le _, Nat.zero_le _, Nat.le_of_ble_eq_true rfl⟩, sh361, ?_⟩
           refine C_whyNot hG hR hh hn ht hg (by omega) (fun f2 q2 => ?_)
           refine af_I0 rfl rfl (by decide) ?_
           try dsimp only
           try simp (disch := omega) only [m3_z, m3_f, m3_q, m3_o, u2_m3_z, u2_m3_f, u2_m3_q, u2_m3_o, pr_at, pr_off, u2_pr, u2_at, u2_off, uz_same, uz_ne, Int.reduceToNat]
           refine B_X10_why_33 ?_
           try dsimp only
           try simp (disch := omega) only [m3_z, m3_f, m3_q, m3_o, u2_m3_z, u2_m3_f, u2_m3_q, u2_m3_o, pr_at, pr_off, u2_pr, u2_at, u2_off, uz_same, uz_ne, Int.reduceToNat]
           first
             | exact absurd True.intro (by assumption)
             | (exfalso; omega)
             | (have hb : ¬ (0 ≤ k ∧ k < z 98) := by omega
                exact hQ.1 hb)
             | exact hQ.2 (by omega) _ _)
    · refine B_X10_why_33 ?_
      try dsimp only
      try simp (disch := omega) only [m3_z, m3_f, m3_q, m3_o, u2_m3_z, u2_m3_f, u2_m3_q, u2_m3_o, pr_at, pr_off, u2_pr, u2_at, u2_off, uz_same, uz_ne, Int.reduceToNat]
      first
        | exact absurd True.intro (by assumption)
        | (exfalso; omega)
        | (have hb : ¬ (0 ≤ k ∧ k < z 98) := by omega
           exact hQ.1 hb)
        | exact hQ.2 (by omega) _ _
  · refine B_X10_why_14 ?_
    try dsimp only
    try simp (disch := omega) only [m3_z, m3_f, m3_q, m3_o, u2_m3_z, u2_m3_f, u2_m3_q, u2_m3_o, pr_at, pr_off, u2_pr, u2_at, u2_off, uz_same, uz_ne, Int.reduceToNat]
    refine ⟨sh361, ?_⟩
    try simp (disch := omega) only [m3_z, m3_f, m3_q, m3_o, u2_m3_z, u2_m3_f, u2_m3_q, u2_m3_o, pr_at, pr_off, u2_pr, u2_at, u2_off, uz_same, uz_ne, Int.reduceToNat]
    refine ⟨sh361, ?_⟩
    refine ⟨fun c21_2 => ?_, fun c21_2 => ?_⟩
    · refine B_X10_why_28 ?_
      try dsimp only
      try simp (disch := omega) only [m3_z, m3_f, m3_q, m3_o, u2_m3_z, u2_m3_f, u2_m3_q, u2_m3_o, pr_at, pr_off, u2_pr, u2_at, u2_off, uz_same, uz_ne, Int.reduceToNat]
      first
        | (exfalso; omega)
        | exact absurd True.intro (by assumption)
        | (refine ⟨⟨Nat.zero_le _, Nat.zero_le _, Nat.le_of_ble_eq_true rfl⟩, sh361, ?_⟩
           refine C_whyNot hG hR hh hn ht hg (by omega) (fun f2 q2 => ?_)
           refine af_I0 rfl rfl (by decide) ?_
           try dsimp only
           try simp (disch := omega) only [m3_z, m3_f, m3_q, m3_o, u2_m3_z, u2_m3_f, u2_m3_q, u2_m3_o, pr_at, pr_off, u2_pr, u2_at, u2_off, uz_same, uz_ne, Int.reduceToNat]
           refine B_X10_why_33 ?_
           try dsimp only
           try simp (disch := omega) only [m3_z, m3_f, m3_q, m3_o, u2_m3_z, u2_m3_f, u2_m3_q, u2_m3_o, pr_at, pr_off, u2_pr, u2_at, u2_off, uz_same, uz_ne, Int.reduceToNat]
           first
             | exact absurd True.intro (by assumption)
             | (exfalso; omega)
             | (have hb : ¬ (0 ≤ k ∧ k < z 98) := by omega
                exact hQ.1 hb)
             | exact hQ.2 (by omega) _ _)
    · refine B_X10_why_33 ?_
      try dsimp only
      try simp (disch := omega) only [m3_z, m3_f, m3_q, m3_o, u2_m3_z, u2_m3_f, u2_m3_q, u2_m3_o, pr_at, pr_off, u2_pr, u2_at, u2_off, uz_same, uz_ne, Int.reduceToNat]
      first
        | exact absurd True.intro (by assumption)
        | (exfalso; omega)
        | (have hb : ¬ (0 ≤ k ∧ k < z 98) := by omega
           exact hQ.1 hb)
        | exact hQ.2 (by omega) _ _
