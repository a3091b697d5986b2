theorem C_order {G : amG} {I : Nat → Nat → Int} {z f q : Row} {R : Nat → Nat → Option Nat} {L : Nat → Nat → Int64} {x c t : Nat} {Q : amR → amH → Prop} (hG : amG0 G) (hR : RM R) {k v : Int} (hW : WF z) (hm : z 316 ≤ 1000) (hsv : 0 ≤ I 361 2 ∧ I 361 2 ≤ 5) (hQ : (¬ ((0 ≤ k ∧ k < z 98) ∧ 0 ≤ v ∧ v ≤ 95) → Q (Sum.inl (some (aI 0))) (m3 (u2 I 361 0 1) z f q, R, L, SH, x, 0, 0)) ∧ (((0 ≤ k ∧ k < z 98) ∧ 0 ≤ v ∧ v ≤ 95) ∧ whyN z k.toNat ≠ 0 → ∀ f q : Row, Q (Sum.inl (some (aI 0))) (m3 (u2 I 361 0 2) z f q, R, L, SH, x, 0, 0)) ∧ (((0 ≤ k ∧ k < z 98) ∧ 0 ≤ v ∧ v ≤ 95) ∧ whyN z k.toNat = 0 → ∀ f q : Row, Q (Sum.inl (some (aI (ordG z k.toNat)))) (m3 (svH (u2 I 361 0 0) z) (giveZ z k v) f q, R, L, SH, x, 0, 0))) : CT G sX10_order [aR (some 361), aI k, aI v] (m3 I z f q, R, L, SH, x, c, t) Q := by
  refine CT_of ok_X10_order hG (Nat.le_of_ble_eq_true rfl) ?_
  show X G mX10_order Q 0 _ [] (m3 I z f q, R, L, SH, x, 0, 0)
  have hC := hW.2.2
  unfold wfC at hC
  have hO := hW.2.1.1
  refine B_X10_order_0 ?_
  try dsimp only
  try simp (disch := omega) only [m3_z, m3_f, m3_q, m3_o, u2_m3_z, u2_m3_f, u2_m3_q, u2_m3_o, pr_at, pr_off, u2_pr, u2_at, u2_off, uz_same, uz_ne, Int.reduceToNat]
  refine ⟨⟨Nat.zero_le _, Nat.zero_le _, Nat.le_of_ble_eq_true rfl⟩, sh361, ?_⟩
  refine C_isTroop hG hR (I := m3 I z f q) (by have := hW.1.2.1; unfold wfN at this; exact this) (fun r hr => ?_)
  have hr : ((0 ≤ k ∧ k < z 98) ∧ r = 1) ∨ (¬ (0 ≤ k ∧ k < z 98) ∧ r = 0) := hr
  refine af_I0 rfl rfl (by decide) ?_
  try dsimp only
  try simp (disch := omega) only [m3_z, m3_f, m3_q, m3_o, u2_m3_z, u2_m3_f, u2_m3_q, u2_m3_o, pr_at, pr_off, u2_pr, u2_at, u2_off, uz_same, uz_ne, Int.reduceToNat]
  refine B_X10_order_6 ?_
  try dsimp only
  try simp (disch := omega) only [m3_z, m3_f, m3_q, m3_o, u2_m3_z, u2_m3_f, u2_m3_q, u2_m3_o, pr_at, pr_off, u2_pr, u2_at, u2_off, uz_same, uz_ne, Int.reduceToNat]
  refine ⟨fun c6_1 => ?_, fun c6_1 => ?_⟩
  · refine B_X10_order_16 ?_
    try dsimp only
    try simp (disch := omega) only [m3_z, m3_f, m3_q, m3_o, u2_m3_z, u2_m3_f, u2_m3_q, u2_m3_o, pr_at, pr_off, u2_pr, u2_at, u2_off, uz_same, uz_ne, Int.reduceToNat]
    refine B_X10_order_33 ?_
    try dsimp only
    try simp (disch := omega) only [m3_z, m3_f, m3_q, m3_o, u2_m3_z, u2_m3_f, u2_m3_q, u2_m3_o, pr_at, pr_off, u2_pr, u2_at, u2_off, uz_same, uz_ne, Int.reduceToNat]
    refine ⟨sh361, ?_⟩
    try simp (disch := omega) only [m3_z, m3_f, m3_q, m3_o, u2_m3_z, u2_m3_f, u2_m3_q, u2_m3_o, pr_at, pr_off, u2_pr, u2_at, u2_off, uz_same, uz_ne, Int.reduceToNat]
    refine ⟨sh361, ?_⟩
    refine ⟨fun c40_3 => ?_, fun c40_3 => ?_⟩
    · refine B_X10_order_45 ?_
      try dsimp only
      try simp (disch := omega) only [m3_z, m3_f, m3_q, m3_o, u2_m3_z, u2_m3_f, u2_m3_q, u2_m3_o, pr_at, pr_off, u2_pr, u2_at, u2_off, uz_same, uz_ne, Int.reduceToNat]
      first
        | (exfalso; omega)
        | exact absurd True.intro (by assumption)
        | (refine ⟨⟨Nat.zero_le _, Nat.zero_le _, Nat.le_of_ble_eq_true rfl⟩, sh361, ?_⟩
           refine C_saveH hG hR (by rw [u2_ne _ _ (by omega)]; exact hsv) ?_
           refine af_N0 rfl rfl rfl ?_
           try dsimp only
           try simp (disch := omega) only [m3_z, m3_f, m3_q, m3_o, u2_m3_z, u2_m3_f, u2_m3_q, u2_m3_o, pr_at, pr_off, u2_pr, u2_at, u2_off, uz_same, uz_ne, Int.reduceToNat]
           refine B_X10_order_49 ?_
           try dsimp only
           try simp (disch := omega) only [m3_z, m3_f, m3_q, m3_o, u2_m3_z, u2_m3_f, u2_m3_q, u2_m3_o, pr_at, pr_off, u2_pr, u2_at, u2_off, uz_same, uz_ne, Int.reduceToNat]
           refine ⟨⟨Nat.zero_le _, Nat.zero_le _, Nat.le_of_ble_eq_true rfl⟩, sh361, ?_⟩
           have h30 : z 195 ≠ 30 := fun e => by
             have h0 : whyN z k.toNat = 0 := by omega
             unfold whyN at h0
             rw [if_pos e] at h0
             split at h0 <;> (try split at h0) <;> omega
           refine C_give hG hR hW.1.1 hW.1.2.1 hW.1.2.2.1 hW.1.2.2.2.2.1 (by omega) (by omega) (by omega) (by omega) (fun f3 q3 => ?_)
           refine af_I0 rfl rfl (by decide) ?_
           try dsimp only
           try simp (disch := omega) only [m3_z, m3_f, m3_q, m3_o, u2_m3_z, u2_m3_f, u2_m3_q, u2_m3_o, pr_at, pr_off, u2_pr, u2_at, u2_off, uz_same, uz_ne, Int.reduceToNat]
           refine B_X10_order_55 ?_
           try dsimp only
           try simp (disch := omega) only [m3_z, m3_f, m3_q, m3_o, u2_m3_z, u2_m3_f, u2_m3_q, u2_m3_o, pr_at, pr_off, u2_pr, u2_at, u2_off, uz_same, uz_ne, Int.reduceToNat]
           first
             | exact absurd True.intro (by assumption)
             | (exfalso; omega)
             | exact hQ.1 (by omega)
             | exact hQ.2.1 (by omega) _ _
             | exact hQ.2.2 (by omega) _ _)
    · first
        | exact absurd True.intro (by assumption)
        | (exfalso; omega)
        | exact hQ.1 (by omega)
        | exact hQ.2.1 (by omega) _ _
        | exact hQ.2.2 (by omega) _ _
  · refine ⟨⟨Nat.zero_le _, Nat.zero_le _, Nat.le_of_ble_eq_true rfl⟩, trivial, ?_⟩
    refine C_isCell hG (fun r2 hr2 => ?_)
    refine af_I0 rfl rfl (by decide) ?_
    try dsimp only
    try simp (disch := omega) only [m3_z, m3_f, m3_q, m3_o, u2_m3_z, u2_m3_f, u2_m3_q, u2_m3_o, pr_at, pr_off, u2_pr, u2_at, u2_off, uz_same, uz_ne, Int.reduceToNat]
    refine B_X10_order_13 ?_
    try dsimp only
    try simp (disch := omega) only [m3_z, m3_f, m3_q, m3_o, u2_m3_z, u2_m3_f, u2_m3_q, u2_m3_o, pr_at, pr_off, u2_pr, u2_at, u2_off, uz_same, uz_ne, Int.reduceToNat]
    refine ⟨fun c13_2 => ?_, fun c13_2 => ?_⟩
    · refine B_X10_order_20 ?_
      try dsimp only
      try simp (disch := omega) only [m3_z, m3_f, m3_q, m3_o, u2_m3_z, u2_m3_f, u2_m3_q, u2_m3_o, pr_at, pr_off, u2_pr, u2_at, u2_off, uz_same, uz_ne, Int.reduceToNat]
      first
        | (exfalso; omega)
        | exact absurd True.intro (by assumption)
        | (refine ⟨⟨Nat.zero_le _, Nat.zero_le _, Nat.le_of_ble_eq_true rfl⟩, sh361, ?_⟩
           refine C_whyNot hG hR hW.1.1 hW.1.2.1 hW.1.2.2.1 hW.1.2.2.2.2.1 (by omega) (fun f2 q2 => ?_)
           refine af_I0 rfl rfl (by decide) ?_
           try dsimp only
           try simp (disch := omega) only [m3_z, m3_f, m3_q, m3_o, u2_m3_z, u2_m3_f, u2_m3_q, u2_m3_o, pr_at, pr_off, u2_pr, u2_at, u2_off, uz_same, uz_ne, Int.reduceToNat]
           refine B_X10_order_25 ?_
           try dsimp only
           try simp (disch := omega) only [m3_z, m3_f, m3_q, m3_o, u2_m3_z, u2_m3_f, u2_m3_q, u2_m3_o, pr_at, pr_off, u2_pr, u2_at, u2_off, uz_same, uz_ne, Int.reduceToNat]
           refine ⟨fun c25_4 => ?_, fun c25_4 => ?_⟩
           · refine B_X10_order_32 ?_
             try dsimp only
             try simp (disch := omega) only [m3_z, m3_f, m3_q, m3_o, u2_m3_z, u2_m3_f, u2_m3_q, u2_m3_o, pr_at, pr_off, u2_pr, u2_at, u2_off, uz_same, uz_ne, Int.reduceToNat]
             refine B_X10_order_33 ?_
             try dsimp only
             try simp (disch := omega) only [m3_z, m3_f, m3_q, m3_o, u2_m3_z, u2_m3_f, u2_m3_q, u2_m3_o, pr_at, pr_off, u2_pr, u2_at, u2_off, uz_same, uz_ne, Int.reduceToNat]
             refine ⟨sh361, ?_⟩
             try simp (disch := omega) only [m3_z, m3_f, m3_q, m3_o, u2_m3_z, u2_m3_f, u2_m3_q, u2_m3_o, pr_at, pr_off, u2_pr, u2_at, u2_off, uz_same, uz_ne, Int.reduceToNat]
             refine ⟨sh361, ?_⟩
             refine ⟨fun c40_6 => ?_, fun c40_6 => ?_⟩
             · refine B_X10_order_45 ?_
               try dsimp only
               try simp (disch := omega) only [m3_z, m3_f, m3_q, m3_o, u2_m3_z, u2_m3_f, u2_m3_q, u2_m3_o, pr_at, pr_off, u2_pr, u2_at, u2_off, uz_same, uz_ne, Int.reduceToNat]
               first
                 | (exfalso; omega)
                 | exact absurd True.intro (by assumption)
                 | (refine ⟨⟨Nat.zero_le _, Nat.zero_le _, Nat.le_of_ble_eq_true rfl⟩, sh361, ?_⟩
                    refine C_saveH hG hR (by rw [u2_ne _ _ (by omega)]; exact hsv) ?_
                    refine af_N0 rfl rfl rfl ?_
                    try dsimp only
                    try simp (disch := omega) only [m3_z, m3_f, m3_q, m3_o, u2_m3_z, u2_m3_f, u2_m3_q, u2_m3_o, pr_at, pr_off, u2_pr, u2_at, u2_off, uz_same, uz_ne, Int.reduceToNat]
                    refine B_X10_order_49 ?_
                    try dsimp only
                    try simp (disch := omega) only [m3_z, m3_f, m3_q, m3_o, u2_m3_z, u2_m3_f, u2_m3_q, u2_m3_o, pr_at, pr_off, u2_pr, u2_at, u2_off, uz_same, uz_ne, Int.reduceToNat]
                    refine ⟨⟨Nat.zero_le _, Nat.zero_le _, Nat.le_of_ble_eq_true rfl⟩, sh361, ?_⟩
                    have h30 : z 195 ≠ 30 := fun e => by
                      have h0 : whyN z k.toNat = 0 := by omega
                      unfold whyN at h0
                      rw [if_pos e] at h0
                      split at h0 <;> (try split at h0) <;> omega
                    refine C_give hG hR hW.1.1 hW.1.2.1 hW.1.2.2.1 hW.1.2.2.2.2.1 (by omega) (by omega) (by omega) (by omega) (fun f3 q3 => ?_)
                    refine af_I0 rfl rfl (by decide) ?_
                    try dsimp only
                    try simp (disch := omega) only [m3_z, m3_f, m3_q, m3_o, u2_m3_z, u2_m3_f, u2_m3_q, u2_m3_o, pr_at, pr_off, u2_pr, u2_at, u2_off, uz_same, uz_ne, Int.reduceToNat]
                    refine B_X10_order_55 ?_
                    try dsimp only
                    try simp (disch := omega) only [m3_z, m3_f, m3_q, m3_o, u2_m3_z, u2_m3_f, u2_m3_q, u2_m3_o, pr_at, pr_off, u2_pr, u2_at, u2_off, uz_same, uz_ne, Int.reduceToNat]
                    first
                      | exact absurd True.intro (by assumption)
                      | (exfalso; omega)
                      | exact hQ.1 (by omega)
                      | exact hQ.2.1 (by omega) _ _
                      | exact hQ.2.2 (by omega) _ _)
             · first
                 | exact absurd True.intro (by assumption)
                 | (exfalso; omega)
                 | exact hQ.1 (by omega)
                 | exact hQ.2.1 (by omega) _ _
                 | exact hQ.2.2 (by omega) _ _
           · refine B_X10_order_33 ?_
             try dsimp only
             try simp (disch := omega) only [m3_z, m3_f, m3_q, m3_o, u2_m3_z, u2_m3_f, u2_m3_q, u2_m3_o, pr_at, pr_off, u2_pr, u2_at, u2_off, uz_same, uz_ne, Int.reduceToNat]
             refine ⟨sh361, ?_⟩
             try simp (disch := omega) only [m3_z, m3_f, m3_q, m3_o, u2_m3_z, u2_m3_f, u2_m3_q, u2_m3_o, pr_at, pr_off, u2_pr, u2_at, u2_off, uz_same, uz_ne, Int.reduceToNat]
             refine ⟨sh361, ?_⟩
             refine ⟨fun c40_5 => ?_, fun c40_5 => ?_⟩
             · refine B_X10_order_45 ?_
               try dsimp only
               try simp (disch := omega) only [m3_z, m3_f, m3_q, m3_o, u2_m3_z, u2_m3_f, u2_m3_q, u2_m3_o, pr_at, pr_off, u2_pr, u2_at, u2_off, uz_same, uz_ne, Int.reduceToNat]
               first
                 | (exfalso; omega)
                 | exact absurd True.intro (by assumption)
                 | (refine ⟨⟨Nat.zero_le _, Nat.zero_le _, Nat.le_of_ble_eq_true rfl⟩, sh361, ?_⟩
                    refine C_saveH hG hR (by rw [u2_ne _ _ (by omega)]; exact hsv) ?_
                    refine af_N0 rfl rfl rfl ?_
                    try dsimp only
                    try simp (disch := omega) only [m3_z, m3_f, m3_q, m3_o, u2_m3_z, u2_m3_f, u2_m3_q, u2_m3_o, pr_at, pr_off, u2_pr, u2_at, u2_off, uz_same, uz_ne, Int.reduceToNat]
                    refine B_X10_order_49 ?_
                    try dsimp only
                    try simp (disch := omega) only [m3_z, m3_f, m3_q, m3_o, u2_m3_z, u2_m3_f, u2_m3_q, u2_m3_o, pr_at, pr_off, u2_pr, u2_at, u2_off, uz_same, uz_ne, Int.reduceToNat]
                    refine ⟨⟨Nat.zero_le _, Nat.zero_le _, Nat.le_of_ble_eq_true rfl⟩, sh361, ?_⟩
                    have h30 : z 195 ≠ 30 := fun e => by
                      have h0 : whyN z k.toNat = 0 := by omega
                      unfold whyN at h0
                      rw [if_pos e] at h0
                      split at h0 <;> (try split at h0) <;> omega
                    refine C_give hG hR hW.1.1 hW.1.2.1 hW.1.2.2.1 hW.1.2.2.2.2.1 (by omega) (by omega) (by omega) (by omega) (fun f3 q3 => ?_)
                    refine af_I0 rfl rfl (by decide) ?_
                    try dsimp only
                    try simp (disch := omega) only [m3_z, m3_f, m3_q, m3_o, u2_m3_z, u2_m3_f, u2_m3_q, u2_m3_o, pr_at, pr_off, u2_pr, u2_at, u2_off, uz_same, uz_ne, Int.reduceToNat]
                    refine B_X10_order_55 ?_
                    try dsimp only
                    try simp (disch := omega) only [m3_z, m3_f, m3_q, m3_o, u2_m3_z, u2_m3_f, u2_m3_q, u2_m3_o, pr_at, pr_off, u2_pr, u2_at, u2_off, uz_same, uz_ne, Int.reduceToNat]
                    first
                      | exact absurd True.intro (by assumption)
                      | (exfalso; omega)
                      | exact hQ.1 (by omega)
                      | exact hQ.2.1 (by omega) _ _
                      | exact hQ.2.2 (by omega) _ _)
             · first
                 | exact absurd True.intro (by assumption)
                 | (exfalso; omega)
                 | exact hQ.1 (by omega)
                 | exact hQ.2.1 (by omega) _ _
                 | exact hQ.2.2 (by omega) _ _)
    · refine B_X10_order_16 ?_
      try dsimp only
      try simp (disch := omega) only [m3_z, m3_f, m3_q, m3_o, u2_m3_z, u2_m3_f, u2_m3_q, u2_m3_o, pr_at, pr_off, u2_pr, u2_at, u2_off, uz_same, uz_ne, Int.reduceToNat]
      refine B_X10_order_33 ?_
      try dsimp only
      try simp (disch := omega) only [m3_z, m3_f, m3_q, m3_o, u2_m3_z, u2_m3_f, u2_m3_q, u2_m3_o, pr_at, pr_off, u2_pr, u2_at, u2_off, uz_same, uz_ne, Int.reduceToNat]
      refine ⟨sh361, ?_⟩
      try simp (disch := omega) only [m3_z, m3_f, m3_q, m3_o, u2_m3_z, u2_m3_f, u2_m3_q, u2_m3_o, pr_at, pr_off, u2_pr, u2_at, u2_off, uz_same, uz_ne, Int.reduceToNat]
      refine ⟨sh361, ?_⟩
      refine ⟨fun c40_4 => ?_, fun c40_4 => ?_⟩
      · refine B_X10_order_45 ?_
        try dsimp only
        try simp (disch := omega) only [m3_z, m3_f, m3_q, m3_o, u2_m3_z, u2_m3_f, u2_m3_q, u2_m3_o, pr_at, pr_off, u2_pr, u2_at, u2_off, uz_same, uz_ne, Int.reduceToNat]
        first
          | (exfalso; omega)
          | exact absurd True.intro (by assumption)
          | (refine ⟨⟨Nat.zero_le _, Nat.zero_le _, Nat.le_of_ble_eq_true rfl⟩, sh361, ?_⟩
             refine C_saveH hG hR (by rw [u2_ne _ _ (by omega)]; exact hsv) ?_
             refine af_N0 rfl rfl rfl ?_
             try dsimp only
             try simp (disch := omega) only [m3_z, m3_f, m3_q, m3_o, u2_m3_z, u2_m3_f, u2_m3_q, u2_m3_o, pr_at, pr_off, u2_pr, u2_at, u2_off, uz_same, uz_ne, Int.reduceToNat]
             refine B_X10_order_49 ?_
             try dsimp only
             try simp (disch := omega) only [m3_z, m3_f, m3_q, m3_o, u2_m3_z, u2_m3_f, u2_m3_q, u2_m3_o, pr_at, pr_off, u2_pr, u2_at, u2_off, uz_same, uz_ne, Int.reduceToNat]
             refine ⟨⟨Nat.zero_le _, Nat.zero_le _, Nat.le_of_ble_eq_true rfl⟩, sh361, ?_⟩
             have h30 : z 195 ≠ 30 := fun e => by
               have h0 : whyN z k.toNat = 0 := by omega
               unfold whyN at h0
               rw [if_pos e] at h0
               split at h0 <;> (try split at h0) <;> omega
             refine C_give hG hR hW.1.1 hW.1.2.1 hW.1.2.2.1 hW.1.2.2.2.2.1 (by omega) (by omega) (by omega) (by omega) (fun f3 q3 => ?_)
             refine af_I0 rfl rfl (by decide) ?_
             try dsimp only
             try simp (disch := omega) only [m3_z, m3_f, m3_q, m3_o, u2_m3_z, u2_m3_f, u2_m3_q, u2_m3_o, pr_at, pr_off, u2_pr, u2_at, u2_off, uz_same, uz_ne, Int.reduceToNat]
             refine B_X10_order_55 ?_
             try dsimp only
             try simp (disch := omega) only [m3_z, m3_f, m3_q, m3_o, u2_m3_z, u2_m3_f, u2_m3_q, u2_m3_o, pr_at, pr_off, u2_pr, u2_at, u2_off, uz_same, uz_ne, Int.reduceToNat]
             first
               | exact absurd True.intro (by assumption)
               | (exfalso; omega)
               | exact hQ.1 (by omega)
               | exact hQ.2.1 (by omega) _ _
               | exact hQ.2.2 (by omega) _ _)
      · first
          | exact absurd True.intro (by assumption)
          | (exfalso; omega)
          | exact hQ.1 (by omega)
          | exact hQ.2.1 (by omega) _ _
          | exact hQ.2.2 (by omega) _ _
theorem L_addTroop {G : amG} {I : Nat → Nat → Int} {R : Nat → Nat → Option Nat} {L : Nat → Nat → Int64} {x : Nat} {Q : amR → amH → Prop} (hG : amG0 G) (hR : RM R) {z f q : Row} {s v w k : Int} (hk : 0 ≤ k ∧ k < 12) (hz : z 98 = k) (hQ : Q (Sum.inl (some (aI k))) (m3 I (adZ z k.toNat s v w) f q, R, L, SH, x, 0, 0)) :
    ∀ (n : Nat) (j : Int), (0 ≤ j ∧ j ≤ 8 ∧ 8 - j < n) → X G mX10_addTroop Q 90 [some (aR (some 361)), some (aI s), some (aI v), some (aI w), some (aI k), some (aI j)] [] (m3 I (clZ z k.toNat j.toNat) f q, R, L, SH, x, 0, 0) := by
  intro n
  induction n with
  | zero =>
    intros
    exfalso; omega
  | succ n ih =>
    intro j h1
    have hs := clZ_s z k.toNat j.toNat
    have h98 := clZ_98 z k.toNat j.toNat
    have hQ' : j = 8 → Q (Sum.inl (some (aI k))) (m3 I (uz (uz (uz (uz (uz (uz (clZ z k.toNat j.toNat) (99 + 8 * k.toNat + 0) s) (99 + 8 * k.toNat + 1) v) (99 + 8 * k.toNat + 2) w) (99 + 8 * k.toNat + 3) v) (99 + 8 * k.toNat + 5) w) 98 (clZ z k.toNat j.toNat 98 + 1)) f q, R, L, SH, x, 0, 0) := fun e => by rw [h98, e]; exact hQ
    generalize clZ z k.toNat j.toNat = S at *
    refine B_X10_addTroop_90 ?_
    try dsimp only
    try simp (disch := omega) only [m3_z, m3_f, m3_q, m3_o, u2_m3_z, u2_m3_f, u2_m3_q, u2_m3_o, pr_at, pr_off, u2_pr, u2_at, u2_off, uz_same, uz_ne, Int.reduceToNat]
    refine ⟨fun c94_0 => ?_, fun c94_0 => ?_⟩
    · refine B_X10_addTroop_112 ?_
      try dsimp only
      try simp (disch := omega) only [m3_z, m3_f, m3_q, m3_o, u2_m3_z, u2_m3_f, u2_m3_q, u2_m3_o, pr_at, pr_off, u2_pr, u2_at, u2_off, uz_same, uz_ne, Int.reduceToNat]
      refine ⟨⟨Nat.zero_le _, Nat.zero_le _, Nat.le_of_ble_eq_true rfl⟩, sh361, ?_⟩
      refine C_lay hG hR (by omega) (by decide) ?_
      refine af_N0 rfl rfl rfl ?_
      try dsimp only
      try simp (disch := omega) only [m3_z, m3_f, m3_q, m3_o, u2_m3_z, u2_m3_f, u2_m3_q, u2_m3_o, pr_at, pr_off, u2_pr, u2_at, u2_off, uz_same, uz_ne, Int.reduceToNat]
      refine B_X10_addTroop_120 ?_
      try dsimp only
      try simp (disch := omega) only [m3_z, m3_f, m3_q, m3_o, u2_m3_z, u2_m3_f, u2_m3_q, u2_m3_o, pr_at, pr_off, u2_pr, u2_at, u2_off, uz_same, uz_ne, Int.reduceToNat]
      refine ⟨⟨Nat.zero_le _, Nat.zero_le _, Nat.le_of_ble_eq_true rfl⟩, sh361, ?_⟩
      refine C_lay hG hR (by omega) (by decide) ?_
      refine af_N0 rfl rfl rfl ?_
      try dsimp only
      try simp (disch := omega) only [m3_z, m3_f, m3_q, m3_o, u2_m3_z, u2_m3_f, u2_m3_q, u2_m3_o, pr_at, pr_off, u2_pr, u2_at, u2_off, uz_same, uz_ne, Int.reduceToNat]
      refine B_X10_addTroop_128 ?_
      try dsimp only
      try simp (disch := omega) only [m3_z, m3_f, m3_q, m3_o, u2_m3_z, u2_m3_f, u2_m3_q, u2_m3_o, pr_at, pr_off, u2_pr, u2_at, u2_off, uz_same, uz_ne, Int.reduceToNat]
      refine ⟨⟨Nat.zero_le _, Nat.zero_le _, Nat.le_of_ble_eq_true rfl⟩, sh361, ?_⟩
      refine C_lay hG hR (by omega) (by decide) ?_
      refine af_N0 rfl rfl rfl ?_
      try dsimp only
      try simp (disch := omega) only [m3_z, m3_f, m3_q, m3_o, u2_m3_z, u2_m3_f, u2_m3_q, u2_m3_o, pr_at, pr_off, u2_pr, u2_at, u2_off, uz_same, uz_ne, Int.reduceToNat]
      refine B_X10_addTroop_136 ?_
      try dsimp only
      try simp (disch := omega) only [m3_z, m3_f, m3_q, m3_o, u2_m3_z, u2_m3_f, u2_m3_q, u2_m3_o, pr_at, pr_off, u2_pr, u2_at, u2_off, uz_same, uz_ne, Int.reduceToNat]
      refine ⟨⟨Nat.zero_le _, Nat.zero_le _, Nat.le_of_ble_eq_true rfl⟩, sh361, ?_⟩
      refine C_lay hG hR (by omega) (by decide) ?_
      refine af_N0 rfl rfl rfl ?_
      try dsimp only
      try simp (disch := omega) only [m3_z, m3_f, m3_q, m3_o, u2_m3_z, u2_m3_f, u2_m3_q, u2_m3_o, pr_at, pr_off, u2_pr, u2_at, u2_off, uz_same, uz_ne, Int.reduceToNat]
      refine B_X10_addTroop_144 ?_
      try dsimp only
      try simp (disch := omega) only [m3_z, m3_f, m3_q, m3_o, u2_m3_z, u2_m3_f, u2_m3_q, u2_m3_o, pr_at, pr_off, u2_pr, u2_at, u2_off, uz_same, uz_ne, Int.reduceToNat]
      refine ⟨⟨Nat.zero_le _, Nat.zero_le _, Nat.le_of_ble_eq_true rfl⟩, sh361, ?_⟩
      refine C_lay hG hR (by omega) (by decide) ?_
      refine af_N0 rfl rfl rfl ?_
      try dsimp only
      try simp (disch := omega) only [m3_z, m3_f, m3_q, m3_o, u2_m3_z, u2_m3_f, u2_m3_q, u2_m3_o, pr_at, pr_off, u2_pr, u2_at, u2_off, uz_same, uz_ne, Int.reduceToNat]
      refine B_X10_addTroop_152 ?_
      try dsimp only
      try simp (disch := omega) only [m3_z, m3_f, m3_q, m3_o, u2_m3_z, u2_m3_f, u2_m3_q, u2_m3_o, pr_at, pr_off, u2_pr, u2_at, u2_off, uz_same, uz_ne, Int.reduceToNat]
      refine ⟨sh361, _, hR.z, ?_⟩
      refine ⟨⟨rfl, rfl⟩, ?_⟩
      refine ⟨_, sh362, ⟨by omega, by omega⟩, ?_⟩
      try simp (disch := omega) only [m3_z, m3_f, m3_q, m3_o, u2_m3_z, u2_m3_f, u2_m3_q, u2_m3_o, pr_at, pr_off, u2_pr, u2_at, u2_off, uz_same, uz_ne, Int.reduceToNat]
      refine ⟨by (refine ⟨?_, ?_⟩ <;> omega), ?_⟩
      refine ⟨_, sh362, ⟨by omega, by omega⟩, ?_⟩
      try simp (disch := omega) only [m3_z, m3_f, m3_q, m3_o, u2_m3_z, u2_m3_f, u2_m3_q, u2_m3_o, pr_at, pr_off, u2_pr, u2_at, u2_off, uz_same, uz_ne, Int.reduceToNat]
      exact hQ' (by omega)
    · refine ⟨⟨Nat.zero_le _, Nat.zero_le _, Nat.le_of_ble_eq_true rfl⟩, sh361, ?_⟩
      refine C_lay hG hR (by omega) (by omega) ?_
      refine af_N0 rfl rfl rfl ?_
      try dsimp only
      try simp (disch := omega) only [m3_z, m3_f, m3_q, m3_o, u2_m3_z, u2_m3_f, u2_m3_q, u2_m3_o, pr_at, pr_off, u2_pr, u2_at, u2_off, uz_same, uz_ne, Int.reduceToNat]
      refine B_X10_addTroop_106 ?_
      try dsimp only
      try simp (disch := omega) only [m3_z, m3_f, m3_q, m3_o, u2_m3_z, u2_m3_f, u2_m3_q, u2_m3_o, pr_at, pr_off, u2_pr, u2_at, u2_off, uz_same, uz_ne, Int.reduceToNat]
      refine ⟨by (refine ⟨?_, ?_⟩ <;> omega), ?_⟩
      have e := ih (j + 1) (by omega)
      rw [show (j + 1).toNat = j.toNat + 1 by omega, hs] at e
      exact e
theorem C_addTroop {G : amG} {I : Nat → Nat → Int} {z f q : Row} {R : Nat → Nat → Option Nat} {L : Nat → Nat → Int64} {x c t : Nat} {Q : amR → amH → Prop} (hG : amG0 G) (hR : RM R) {s v w : Int} (hW : WF z) (hsv : 0 ≤ I 361 2 ∧ I 361 2 ≤ 5) (hQ : (¬ ((0 ≤ s ∧ s ≤ 1) ∧ 0 ≤ v ∧ v ≤ 95) → Q (Sum.inl (some (aI 0))) (m3 (u2 I 361 0 1) z f q, R, L, SH, x, 0, 0)) ∧ (((0 ≤ s ∧ s ≤ 1) ∧ 0 ≤ v ∧ v ≤ 95) ∧ ¬ (1 ≤ w ∧ w ≤ 20) → Q (Sum.inl (some (aI 0))) (m3 (u2 I 361 0 2) z f q, R, L, SH, x, 0, 0)) ∧ (((0 ≤ s ∧ s ≤ 1) ∧ 0 ≤ v ∧ v ≤ 95) ∧ (1 ≤ w ∧ w ≤ 20) ∧ (z 98 = 12 ∨ tAt z v ≠ -1) → Q (Sum.inl (some (aI 0))) (m3 (u2 I 361 0 3) z f q, R, L, SH, x, 0, 0)) ∧ (((0 ≤ s ∧ s ≤ 1) ∧ 0 ≤ v ∧ v ≤ 95) ∧ (1 ≤ w ∧ w ≤ 20) ∧ ¬ (z 98 = 12 ∨ tAt z v ≠ -1) → Q (Sum.inl (some (aI (z 98)))) (m3 (svH (u2 I 361 0 0) z) (adZ z (z 98).toNat s v w) f q, R, L, SH, x, 0, 0))) : CT G sX10_addTroop [aR (some 361), aI s, aI v, aI w] (m3 I z f q, R, L, SH, x, c, t) Q := by
  refine CT_of ok_X10_addTroop hG (Nat.le_of_ble_eq_true rfl) ?_
  show X G mX10_addTroop Q 0 _ [] (m3 I z f q, R, L, SH, x, 0, 0)
  have hn := hW.1.2.1
  unfold wfN at hn
  have hta := tA_lt z v (z 98).toNat
  refine B_X10_addTroop_0 ?_
  try dsimp only
  try simp (disch := omega) only [m3_z, m3_f, m3_q, m3_o, u2_m3_z, u2_m3_f, u2_m3_q, u2_m3_o, pr_at, pr_off, u2_pr, u2_at, u2_off, uz_same, uz_ne, Int.reduceToNat]
  refine ⟨⟨Nat.zero_le _, Nat.zero_le _, Nat.le_of_ble_eq_true rfl⟩, trivial, ?_⟩
  refine C_isSide hG (fun r hr => ?_)
  refine af_I0 rfl rfl (by decide) ?_
  try dsimp only
  try simp (disch := omega) only [m3_z, m3_f, m3_q, m3_o, u2_m3_z, u2_m3_f, u2_m3_q, u2_m3_o, pr_at, pr_off, u2_pr, u2_at, u2_off, uz_same, uz_ne, Int.reduceToNat]
  refine B_X10_addTroop_4 ?_
  try dsimp only
  try simp (disch := omega) only [m3_z, m3_f, m3_q, m3_o, u2_m3_z, u2_m3_f, u2_m3_q, u2_m3_o, pr_at, pr_off, u2_pr, u2_at, u2_off, uz_same, uz_ne, Int.reduceToNat]
  refine ⟨fun c4_1 => ?_, fun c4_1 => ?_⟩
  · refine B_X10_addTroop_14 ?_
    try dsimp only
    try simp (disch := omega) only [m3_z, m3_f, m3_q, m3_o, u2_m3_z, u2_m3_f, u2_m3_q, u2_m3_o, pr_at, pr_off, u2_pr, u2_at, u2_off, uz_same, uz_ne, Int.reduceToNat]
    refine ⟨sh361, ?_⟩
    try simp (disch := omega) only [m3_z, m3_f, m3_q, m3_o, u2_m3_z, u2_m3_f, u2_m3_q, u2_m3_o, pr_at, pr_off, u2_pr, u2_at, u2_off, uz_same, uz_ne, Int.reduceToNat]
    first
      | exact absurd True.intro (by assumption)
      | (exfalso; omega)
      | exact hQ.1 (by omega)
      | exact hQ.2.1 (by omega)
      | exact hQ.2.2.1 (by omega)
  · refine ⟨⟨Nat.zero_le _, Nat.zero_le _, Nat.le_of_ble_eq_true rfl⟩, trivial, ?_⟩
    refine C_isCell hG (fun r2 hr2 => ?_)
    refine af_I0 rfl rfl (by decide) ?_
    try dsimp only
    try simp (disch := omega) only [m3_z, m3_f, m3_q, m3_o, u2_m3_z, u2_m3_f, u2_m3_q, u2_m3_o, pr_at, pr_off, u2_pr, u2_at, u2_off, uz_same, uz_ne, Int.reduceToNat]
    refine B_X10_addTroop_11 ?_
    try dsimp only
    try simp (disch := omega) only [m3_z, m3_f, m3_q, m3_o, u2_m3_z, u2_m3_f, u2_m3_q, u2_m3_o, pr_at, pr_off, u2_pr, u2_at, u2_off, uz_same, uz_ne, Int.reduceToNat]
    refine ⟨fun c11_2 => ?_, fun c11_2 => ?_⟩
    · refine B_X10_addTroop_21 ?_
      try dsimp only
      try simp (disch := omega) only [m3_z, m3_f, m3_q, m3_o, u2_m3_z, u2_m3_f, u2_m3_q, u2_m3_o, pr_at, pr_off, u2_pr, u2_at, u2_off, uz_same, uz_ne, Int.reduceToNat]
      refine ⟨⟨Nat.zero_le _, Nat.zero_le _, Nat.le_of_ble_eq_true rfl⟩, trivial, ?_⟩
      refine C_within hG (fun r3 hr3 => ?_)
      refine af_I0 rfl rfl (by decide) ?_
      try dsimp only
      try simp (disch := omega) only [m3_z, m3_f, m3_q, m3_o, u2_m3_z, u2_m3_f, u2_m3_q, u2_m3_o, pr_at, pr_off, u2_pr, u2_at, u2_off, uz_same, uz_ne, Int.reduceToNat]
      refine B_X10_addTroop_29 ?_
      try dsimp only
      try simp (disch := omega) only [m3_z, m3_f, m3_q, m3_o, u2_m3_z, u2_m3_f, u2_m3_q, u2_m3_o, pr_at, pr_off, u2_pr, u2_at, u2_off, uz_same, uz_ne, Int.reduceToNat]
      refine ⟨fun c29_4 => ?_, fun c29_4 => ?_⟩
      · refine B_X10_addTroop_36 ?_
        try dsimp only
        try simp (disch := omega) only [m3_z, m3_f, m3_q, m3_o, u2_m3_z, u2_m3_f, u2_m3_q, u2_m3_o, pr_at, pr_off, u2_pr, u2_at, u2_off, uz_same, uz_ne, Int.reduceToNat]
        refine ⟨sh361, _, hR.z, ?_⟩
        refine ⟨_, sh362, ⟨by omega, by omega⟩, ?_⟩
        try simp (disch := omega) only [m3_z, m3_f, m3_q, m3_o, u2_m3_z, u2_m3_f, u2_m3_q, u2_m3_o, pr_at, pr_off, u2_pr, u2_at, u2_off, uz_same, uz_ne, Int.reduceToNat]
        refine ⟨fun c45_5 => ?_, fun c45_5 => ?_⟩
        · refine B_X10_addTroop_57 ?_
          try dsimp only
          try simp (disch := omega) only [m3_z, m3_f, m3_q, m3_o, u2_m3_z, u2_m3_f, u2_m3_q, u2_m3_o, pr_at, pr_off, u2_pr, u2_at, u2_off, uz_same, uz_ne, Int.reduceToNat]
          refine B_X10_addTroop_62 ?_
          try dsimp only
          try simp (disch := omega) only [m3_z, m3_f, m3_q, m3_o, u2_m3_z, u2_m3_f, u2_m3_q, u2_m3_o, pr_at, pr_off, u2_pr, u2_at, u2_off, uz_same, uz_ne, Int.reduceToNat]
          refine ⟨sh361, ?_⟩
          try simp (disch := omega) only [m3_z, m3_f, m3_q, m3_o, u2_m3_z, u2_m3_f, u2_m3_q, u2_m3_o, pr_at, pr_off, u2_pr, u2_at, u2_off, uz_same, uz_ne, Int.reduceToNat]
          refine ⟨sh361, ?_⟩
          refine ⟨fun c69_7 => ?_, fun c69_7 => ?_⟩
          · refine B_X10_addTroop_74 ?_
            try dsimp only
            try simp (disch := omega) only [m3_z, m3_f, m3_q, m3_o, u2_m3_z, u2_m3_f, u2_m3_q, u2_m3_o, pr_at, pr_off, u2_pr, u2_at, u2_off, uz_same, uz_ne, Int.reduceToNat]
            first
              | (exfalso; omega)
              | exact absurd True.intro (by assumption)
              | (refine ⟨⟨Nat.zero_le _, Nat.zero_le _, Nat.le_of_ble_eq_true rfl⟩, sh361, ?_⟩
                 refine C_saveH hG hR (by rw [u2_ne _ _ (by omega)]; exact hsv) ?_
                 refine af_N0 rfl rfl rfl ?_
                 try dsimp only
                 try simp (disch := omega) only [m3_z, m3_f, m3_q, m3_o, u2_m3_z, u2_m3_f, u2_m3_q, u2_m3_o, pr_at, pr_off, u2_pr, u2_at, u2_off, uz_same, uz_ne, Int.reduceToNat]
                 refine B_X10_addTroop_78 ?_
                 try dsimp only
                 try simp (disch := omega) only [m3_z, m3_f, m3_q, m3_o, u2_m3_z, u2_m3_f, u2_m3_q, u2_m3_o, pr_at, pr_off, u2_pr, u2_at, u2_off, uz_same, uz_ne, Int.reduceToNat]
                 refine ⟨sh361, _, hR.z, ?_⟩
                 refine ⟨_, sh362, ⟨by omega, by omega⟩, ?_⟩
                 try simp (disch := omega) only [m3_z, m3_f, m3_q, m3_o, u2_m3_z, u2_m3_f, u2_m3_q, u2_m3_o, pr_at, pr_off, u2_pr, u2_at, u2_off, uz_same, uz_ne, Int.reduceToNat]
                 have e := L_addTroop hG hR (Q := Q) (by omega) rfl (hQ.2.2.2 (by omega)) 9 0 (by omega)
                 exact e)
          · first
              | exact absurd True.intro (by assumption)
              | (exfalso; omega)
              | exact hQ.1 (by omega)
              | exact hQ.2.1 (by omega)
              | exact hQ.2.2.1 (by omega)
        · first
            | (exfalso; omega)
            | exact absurd True.intro (by assumption)
            | (refine ⟨⟨Nat.zero_le _, Nat.zero_le _, Nat.le_of_ble_eq_true rfl⟩, sh361, ?_⟩
               refine C_troopAt hG hR (I := m3 I z f q) hW.1.2.1 (fun r4 hr4 => ?_)
               have hr4 : r4 = tAt z v := hr4
               refine af_I0 rfl rfl (by decide) ?_
               try dsimp only
               try simp (disch := omega) only [m3_z, m3_f, m3_q, m3_o, u2_m3_z, u2_m3_f, u2_m3_q, u2_m3_o, pr_at, pr_off, u2_pr, u2_at, u2_off, uz_same, uz_ne, Int.reduceToNat]
               refine B_X10_addTroop_53 ?_
               try dsimp only
               try simp (disch := omega) only [m3_z, m3_f, m3_q, m3_o, u2_m3_z, u2_m3_f, u2_m3_q, u2_m3_o, pr_at, pr_off, u2_pr, u2_at, u2_off, uz_same, uz_ne, Int.reduceToNat]
               refine ⟨fun c54_6 => ?_, fun c54_6 => ?_⟩
               · refine B_X10_addTroop_61 ?_
                 try dsimp only
                 try simp (disch := omega) only [m3_z, m3_f, m3_q, m3_o, u2_m3_z, u2_m3_f, u2_m3_q, u2_m3_o, pr_at, pr_off, u2_pr, u2_at, u2_off, uz_same, uz_ne, Int.reduceToNat]
                 refine B_X10_addTroop_62 ?_
                 try dsimp only
                 try simp (disch := omega) only [m3_z, m3_f, m3_q, m3_o, u2_m3_z, u2_m3_f, u2_m3_q, u2_m3_o, pr_at, pr_off, u2_pr, u2_at, u2_off, uz_same, uz_ne, Int.reduceToNat]
                 refine ⟨sh361, ?_⟩
                 try simp (disch := omega) only [m3_z, m3_f, m3_q, m3_o, u2_m3_z, u2_m3_f, u2_m3_q, u2_m3_o, pr_at, pr_off, u2_pr, u2_at, u2_off, uz_same, uz_ne, Int.reduceToNat]
                 refine ⟨sh361, ?_⟩
                 refine ⟨fun c69_8 => ?_, fun c69_8 => ?_⟩
                 · refine B_X10_addTroop_74 ?_
                   try dsimp only
                   try simp (disch := omega) only [m3_z, m3_f, m3_q, m3_o, u2_m3_z, u2_m3_f, u2_m3_q, u2_m3_o, pr_at, pr_off, u2_pr, u2_at, u2_off, uz_same, uz_ne, Int.reduceToNat]
                   first
                     | (exfalso; omega)
                     | exact absurd True.intro (by assumption)
                     | (refine ⟨⟨Nat.zero_le _, Nat.zero_le _, Nat.le_of_ble_eq_true rfl⟩, sh361, ?_⟩
                        refine C_saveH hG hR (by rw [u2_ne _ _ (by omega)]; exact hsv) ?_
                        refine af_N0 rfl rfl rfl ?_
                        try dsimp only
                        try simp (disch := omega) only [m3_z, m3_f, m3_q, m3_o, u2_m3_z, u2_m3_f, u2_m3_q, u2_m3_o, pr_at, pr_off, u2_pr, u2_at, u2_off, uz_same, uz_ne, Int.reduceToNat]
                        refine B_X10_addTroop_78 ?_
                        try dsimp only
                        try simp (disch := omega) only [m3_z, m3_f, m3_q, m3_o, u2_m3_z, u2_m3_f, u2_m3_q, u2_m3_o, pr_at, pr_off, u2_pr, u2_at, u2_off, uz_same, uz_ne, Int.reduceToNat]
                        refine ⟨sh361, _, hR.z, ?_⟩
                        refine ⟨_, sh362, ⟨by omega, by omega⟩, ?_⟩
                        try simp (disch := omega) only [m3_z, m3_f, m3_q, m3_o, u2_m3_z, u2_m3_f, u2_m3_q, u2_m3_o, pr_at, pr_off, u2_pr, u2_at, u2_off, uz_same, uz_ne, Int.reduceToNat]
                        have e := L_addTroop hG hR (Q := Q) (by omega) rfl (hQ.2.2.2 (by omega)) 9 0 (by omega)
                        exact e)
                 · first
                     | exact absurd True.intro (by assumption)
                     | (exfalso; omega)
                     | exact hQ.1 (by omega)
                     | exact hQ.2.1 (by omega)
                     | exact hQ.2.2.1 (by omega)
               · refine B_X10_addTroop_57 ?_
                 try dsimp only
                 try simp (disch := omega) only [m3_z, m3_f, m3_q, m3_o, u2_m3_z, u2_m3_f, u2_m3_q, u2_m3_o, pr_at, pr_off, u2_pr, u2_at, u2_off, uz_same, uz_ne, Int.reduceToNat]
                 refine B_X10_addTroop_62 ?_
                 try dsimp only
                 try simp (disch := omega) only [m3_z, m3_f, m3_q, m3_o, u2_m3_z, u2_m3_f, u2_m3_q, u2_m3_o, pr_at, pr_off, u2_pr, u2_at, u2_off, uz_same, uz_ne, Int.reduceToNat]
                 refine ⟨sh361, ?_⟩
                 try simp (disch := omega) only [m3_z, m3_f, m3_q, m3_o, u2_m3_z, u2_m3_f, u2_m3_q, u2_m3_o, pr_at, pr_off, u2_pr, u2_at, u2_off, uz_same, uz_ne, Int.reduceToNat]
                 refine ⟨sh361, ?_⟩
                 refine ⟨fun c69_8 => ?_, fun c69_8 => ?_⟩
                 · refine B_X10_addTroop_74 ?_
                   try dsimp only
                   try simp (disch := omega) only [m3_z, m3_f, m3_q, m3_o, u2_m3_z, u2_m3_f, u2_m3_q, u2_m3_o, pr_at, pr_off, u2_pr, u2_at, u2_off, uz_same, uz_ne, Int.reduceToNat]
                   first
                     | (exfalso; omega)
                     | exact absurd True.intro (by assumption)
                     | (refine ⟨⟨Nat.zero_le _, Nat.zero_le _, Nat.le_of_ble_eq_true rfl⟩, sh361, ?_⟩
                        refine C_saveH hG hR (by rw [u2_ne _ _ (by omega)]; exact hsv) ?_
                        refine af_N0 rfl rfl rfl ?_
                        try dsimp only
                        try simp (disch := omega) only [m3_z, m3_f, m3_q, m3_o, u2_m3_z, u2_m3_f, u2_m3_q, u2_m3_o, pr_at, pr_off, u2_pr, u2_at, u2_off, uz_same, uz_ne, Int.reduceToNat]
                        refine B_X10_addTroop_78 ?_
                        try dsimp only
                        try simp (disch := omega) only [m3_z, m3_f, m3_q, m3_o, u2_m3_z, u2_m3_f, u2_m3_q, u2_m3_o, pr_at, pr_off, u2_pr, u2_at, u2_off, uz_same, uz_ne, Int.reduceToNat]
                        refine ⟨sh361, _, hR.z, ?_⟩
                        refine ⟨_, sh362, ⟨by omega, by omega⟩, ?_⟩
                        try simp (disch := omega) only [m3_z, m3_f, m3_q, m3_o, u2_m3_z, u2_m3_f, u2_m3_q, u2_m3_o, pr_at, pr_off, u2_pr, u2_at, u2_off, uz_same, uz_ne, Int.reduceToNat]
                        have e := L_addTroop hG hR (Q := Q) (by omega) rfl (hQ.2.2.2 (by omega)) 9 0 (by omega)
                        exact e)
                 · first
                     | exact absurd True.intro (by assumption)
                     | (exfalso; omega)
                     | exact hQ.1 (by omega)
                     | exact hQ.2.1 (by omega)
                     | exact hQ.2.2.1 (by omega))
      · refine B_X10_addTroop_62 ?_
        try dsimp only
        try simp (disch := omega) only [m3_z, m3_f, m3_q, m3_o, u2_m3_z, u2_m3_f, u2_m3_q, u2_m3_o, pr_at, pr_off, u2_pr, u2_at, u2_off, uz_same, uz_ne, Int.reduceToNat]
        refine ⟨sh361, ?_⟩
        try simp (disch := omega) only [m3_z, m3_f, m3_q, m3_o, u2_m3_z, u2_m3_f, u2_m3_q, u2_m3_o, pr_at, pr_off, u2_pr, u2_at, u2_off, uz_same, uz_ne, Int.reduceToNat]
        refine ⟨sh361, ?_⟩
        refine ⟨fun c69_5 => ?_, fun c69_5 => ?_⟩
        · refine B_X10_addTroop_74 ?_
          try dsimp only
          try simp (disch := omega) only [m3_z, m3_f, m3_q, m3_o, u2_m3_z, u2_m3_f, u2_m3_q, u2_m3_o, pr_at, pr_off, u2_pr, u2_at, u2_off, uz_same, uz_ne, Int.reduceToNat]
          first
            | (exfalso; omega)
            | exact absurd True.intro (by assumption)
            | (refine ⟨⟨Nat.zero_le _, Nat.zero_le _, Nat.le_of_ble_eq_true rfl⟩, sh361, ?_⟩
               refine C_saveH hG hR (by rw [u2_ne _ _ (by omega)]; exact hsv) ?_
               refine af_N0 rfl rfl rfl ?_
               try dsimp only
               try simp (disch := omega) only [m3_z, m3_f, m3_q, m3_o, u2_m3_z, u2_m3_f, u2_m3_q, u2_m3_o, pr_at, pr_off, u2_pr, u2_at, u2_off, uz_same, uz_ne, Int.reduceToNat]
               refine B_X10_addTroop_78 ?_
               try dsimp only
               try simp (disch := omega) only [m3_z, m3_f, m3_q, m3_o, u2_m3_z, u2_m3_f, u2_m3_q, u2_m3_o, pr_at, pr_off, u2_pr, u2_at, u2_off, uz_same, uz_ne, Int.reduceToNat]
               refine ⟨sh361, _, hR.z, ?_⟩
               refine ⟨_, sh362, ⟨by omega, by omega⟩, ?_⟩
               try simp (disch := omega) only [m3_z, m3_f, m3_q, m3_o, u2_m3_z, u2_m3_f, u2_m3_q, u2_m3_o, pr_at, pr_off, u2_pr, u2_at, u2_off, uz_same, uz_ne, Int.reduceToNat]
               have e := L_addTroop hG hR (Q := Q) (by omega) rfl (hQ.2.2.2 (by omega)) 9 0 (by omega)
               exact e)
        · first
            | exact absurd True.intro (by assumption)
            | (exfalso; omega)
            | exact hQ.1 (by omega)
            | exact hQ.2.1 (by omega)
            | exact hQ.2.2.1 (by omega)
    · refine B_X10_addTroop_14 ?_
      try dsimp only
      try simp (disch := omega) only [m3_z, m3_f, m3_q, m3_o, u2_m3_z, u2_m3_f, u2_m3_q, u2_m3_o, pr_at, pr_off, u2_pr, u2_at, u2_off, uz_same, uz_ne, Int.reduceToNat]
      refine ⟨sh361, ?_⟩
      try simp (disch := omega) only [m3_z, m3_f, m3_q, m3_o, u2_m3_z, u2_m3_f, u2_m3_q, u2_m3_o, pr_at, pr_off, u2_pr, u2_at, u2_off, uz_same, uz_ne, Int.reduceToNat]
      first
        | exact absurd True.intro (by assumption)
        | (exfalso; omega)
        | exact hQ.1 (by omega)
        | exact hQ.2.1 (by omega)
        | exact hQ.2.2.1 (by omega)
