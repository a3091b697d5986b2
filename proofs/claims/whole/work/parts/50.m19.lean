/-! ===== the model: the best post ===== -/
def bpS (z : Row) (s : Int) : Nat → Int × Int
  | 0 => (0, tmN z 0 s (z 98).toNat)
  | n + 1 => if tmN z (n + 1 : Nat) s (z 98).toNat < (bpS z s n).2 then (((n + 1 : Nat) : Int), tmN z (n + 1 : Nat) s (z 98).toNat) else bpS z s n
theorem bpS_0 (z : Row) (s : Int) : bpS z s 0 = (0, tmN z 0 s (z 98).toNat) := rfl
theorem bpS_s (z : Row) (s : Int) (n : Nat) : bpS z s (n + 1) = if tmN z (n + 1 : Nat) s (z 98).toNat < (bpS z s n).2 then (((n + 1 : Nat) : Int), tmN z (n + 1 : Nat) s (z 98).toNat) else bpS z s n := rfl
theorem L_timesFrom {G : amG} {I : Nat → Nat → Int} {R : Nat → Nat → Option Nat} {L : Nat → Nat → Int64} {x : Nat} {Q : amR → amH → Prop} (hG : amG0 G) (hR : RM R) {z f q : Row} (hh : wfH z) (hn : wfN z) (ht : wfT z) {v s : Int} (hv : isC v) (hf : ∀ t : Int, isC t → f t.toNat = dS z v t) (hQ : Q (Sum.inl (some (aI (tmN z v s (z 98).toNat)))) (m3 I z f q, R, L, SH, x, 0, 0)) :
    ∀ (n : Nat) (j a : Int) (l5 : Option amV), (0 ≤ j ∧ j ≤ z 98 ∧ z 98 - j < n) → a = tmN z v s j.toNat → X G mX10_timesFrom Q 11 [some (aR (some 361)), some (aI v), some (aI s), some (aI a), some (aI j), l5] [] (m3 I z f q, R, L, SH, x, 0, 0) := by
  intro n
  induction n with
  | zero =>
    intros
    exfalso; omega
  | succ n ih =>
    intro j a l5 h1 ha
    have hn1 := hn.1
    have hn2 := hn.2
    have hb := tmN_b (s := s) hv ht j.toNat (by omega)
    have hs : tmN z v s (j.toNat + 1) = tmN z v s j.toNat + (if tf z j.toNat 4 ≠ 2 ∧ tf z j.toNat 0 = s then tmK z v j.toNat else 0) := rfl
    refine B_X10_timesFrom_11 ?_
    try dsimp only
    try simp only [m3_z, m3_f, m3_q, u2_m3_z, u2_m3_f, u2_m3_q, Int.reduceToNat]
    refine ⟨sh361, _, hR.z, ?_⟩
    refine ⟨_, sh362, ⟨by omega, by omega⟩, ?_⟩
    try simp only [m3_z, m3_f, m3_q, u2_m3_z, u2_m3_f, u2_m3_q, Int.reduceToNat]
    refine ⟨fun c20_0 => ?_, fun c20_0 => ?_⟩
    · refine B_X10_timesFrom_102 ?_
      try dsimp only
      try simp only [m3_z, m3_f, m3_q, u2_m3_z, u2_m3_f, u2_m3_q, Int.reduceToNat]
      have e : j = z 98 := by omega
      rw [e] at ha
      rw [ha]
      exact hQ
    · refine ⟨⟨Nat.zero_le _, Nat.zero_le _, Nat.le_of_ble_eq_true rfl⟩, sh361, ?_⟩
      refine C_isGone hG hR (by omega) (fun r hr => ?_)
      have hr : (tf z j.toNat 4 = 2 ∧ r = 1) ∨ (tf z j.toNat 4 ≠ 2 ∧ r = 0) := hr
      refine af_I0 rfl rfl (by decide) ?_
      try dsimp only
      try simp only [m3_z, m3_f, m3_q, u2_m3_z, u2_m3_f, u2_m3_q, Int.reduceToNat]
      refine B_X10_timesFrom_29 ?_
      try dsimp only
      try simp only [m3_z, m3_f, m3_q, u2_m3_z, u2_m3_f, u2_m3_q, Int.reduceToNat]
      refine ⟨fun c29_1 => ?_, fun c29_1 => ?_⟩
      · refine B_X10_timesFrom_96 ?_
        try dsimp only
        try simp only [m3_z, m3_f, m3_q, u2_m3_z, u2_m3_f, u2_m3_q, Int.reduceToNat]
        refine ⟨by (refine ⟨?_, ?_⟩ <;> omega), ?_⟩
        refine ih (j + 1) _ _ (by omega) ?_
        rw [show (j + 1).toNat = j.toNat + 1 by omega, hs]
        first
          | (rw [if_neg (by omega)]; omega)
          | (rw [if_pos ⟨by omega, by omega⟩]
             unfold tmK
             rw [← hr3]
             first
               | (rw [if_pos (by omega)]; omega)
               | (rw [if_neg (by omega), if_pos (by omega)]; omega)
               | (rw [if_neg (by omega), if_neg (by omega)]; omega))
      · refine ⟨⟨Nat.zero_le _, Nat.zero_le _, Nat.le_of_ble_eq_true rfl⟩, sh361, ?_⟩
        refine C_of hG hR (by omega) (by decide) (fun r2 hr2 => ?_)
        have hr2 : r2 = tf z j.toNat 0 := hr2
        refine af_I0 rfl rfl (by decide) ?_
        try dsimp only
        try simp only [m3_z, m3_f, m3_q, u2_m3_z, u2_m3_f, u2_m3_q, Int.reduceToNat]
        refine B_X10_timesFrom_39 ?_
        try dsimp only
        try simp only [m3_z, m3_f, m3_q, u2_m3_z, u2_m3_f, u2_m3_q, Int.reduceToNat]
        refine ⟨fun c40_2 => ?_, fun c40_2 => ?_⟩
        · refine B_X10_timesFrom_96 ?_
          try dsimp only
          try simp only [m3_z, m3_f, m3_q, u2_m3_z, u2_m3_f, u2_m3_q, Int.reduceToNat]
          refine ⟨by (refine ⟨?_, ?_⟩ <;> omega), ?_⟩
          refine ih (j + 1) _ _ (by omega) ?_
          rw [show (j + 1).toNat = j.toNat + 1 by omega, hs]
          first
            | (rw [if_neg (by omega)]; omega)
            | (rw [if_pos ⟨by omega, by omega⟩]
               unfold tmK
               rw [← hr3]
               first
                 | (rw [if_pos (by omega)]; omega)
                 | (rw [if_neg (by omega), if_pos (by omega)]; omega)
                 | (rw [if_neg (by omega), if_neg (by omega)]; omega))
        · refine ⟨⟨Nat.zero_le _, Nat.zero_le _, Nat.le_of_ble_eq_true rfl⟩, sh361, ?_⟩
          refine C_of hG hR (by omega) (by decide) (fun r3 hr3 => ?_)
          have hr3 : r3 = tf z j.toNat 1 := hr3
          have hT := ht j.toNat (by omega)
          have hc3 : isC r3 := by rw [hr3]; unfold isC; have := hT.2.1; omega
          have hc4 : 0 ≤ r3 ∧ r3 < 96 := hc3
          have hf3 := hf r3 hc3
          have hd3 := dS_b (z := z) hv hc3
          have td : Int.tdiv (f r3.toNat + 2) 3 = (f r3.toNat + 2) / 3 := Int.tdiv_eq_ediv_of_nonneg (by omega)
          refine af_I0 rfl rfl (by decide) ?_
          try dsimp only
          try simp only [m3_z, m3_f, m3_q, u2_m3_z, u2_m3_f, u2_m3_q, Int.reduceToNat]
          refine B_X10_timesFrom_50 ?_
          try dsimp only
          try simp only [m3_z, m3_f, m3_q, u2_m3_z, u2_m3_f, u2_m3_q, Int.reduceToNat]
          refine ⟨⟨Nat.zero_le _, Nat.zero_le _, Nat.le_of_ble_eq_true rfl⟩, sh361, ?_⟩
          refine C_isSeen hG hR hh (I := m3 I z f q) hv hc3 (fun r4 hr4 => ?_)
          have hs4 : (seeI z v r3 = 1 ∧ r4 = 1) ∨ (seeI z v r3 = 0 ∧ r4 = 0) := hr4.imp (fun q => ⟨seeI_one q.1, q.2⟩) (fun q => ⟨seeI_zero q.1, q.2⟩)
          refine af_I0 rfl rfl (by decide) ?_
          try dsimp only
          try simp only [m3_z, m3_f, m3_q, u2_m3_z, u2_m3_f, u2_m3_q, Int.reduceToNat]
          refine B_X10_timesFrom_60 ?_
          try dsimp only
          try simp only [m3_z, m3_f, m3_q, u2_m3_z, u2_m3_f, u2_m3_q, Int.reduceToNat]
          refine ⟨fun c60_4 => ?_, fun c60_4 => ?_⟩
          · refine B_X10_timesFrom_67 ?_
            try dsimp only
            try simp only [m3_z, m3_f, m3_q, u2_m3_z, u2_m3_f, u2_m3_q, Int.reduceToNat]
            refine ⟨sh361, _, hR.far, ?_⟩
            refine ⟨_, sh365, ⟨by omega, by omega⟩, ?_⟩
            try simp only [m3_z, m3_f, m3_q, u2_m3_z, u2_m3_f, u2_m3_q, Int.reduceToNat]
            refine ⟨fun c75_5 => ?_, fun c75_5 => ?_⟩
            · refine B_X10_timesFrom_83 ?_
              try dsimp only
              try simp only [m3_z, m3_f, m3_q, u2_m3_z, u2_m3_f, u2_m3_q, Int.reduceToNat]
              refine ⟨sh361, _, hR.far, ?_⟩
              refine ⟨_, sh365, ⟨by omega, by omega⟩, ?_⟩
              try simp only [m3_z, m3_f, m3_q, u2_m3_z, u2_m3_f, u2_m3_q, Int.reduceToNat]
              refine ⟨by (refine ⟨?_, ?_⟩ <;> omega), ?_⟩
              refine ⟨⟨by decide, by (refine ⟨?_, ?_⟩ <;> omega)⟩, ?_⟩
              refine B_X10_timesFrom_94 ?_
              try dsimp only
              try simp only [m3_z, m3_f, m3_q, u2_m3_z, u2_m3_f, u2_m3_q, Int.reduceToNat]
              refine ⟨by (refine ⟨?_, ?_⟩ <;> omega), ?_⟩
              refine B_X10_timesFrom_96 ?_
              try dsimp only
              try simp only [m3_z, m3_f, m3_q, u2_m3_z, u2_m3_f, u2_m3_q, Int.reduceToNat]
              refine ⟨by (refine ⟨?_, ?_⟩ <;> omega), ?_⟩
              refine ih (j + 1) _ _ (by omega) ?_
              rw [show (j + 1).toNat = j.toNat + 1 by omega, hs]
              first
                | (rw [if_neg (by omega)]; omega)
                | (rw [if_pos ⟨by omega, by omega⟩]
                   unfold tmK
                   rw [← hr3]
                   first
                     | (rw [if_pos (by omega)]; omega)
                     | (rw [if_neg (by omega), if_pos (by omega)]; omega)
                     | (rw [if_neg (by omega), if_neg (by omega)]; omega))
            · refine B_X10_timesFrom_94 ?_
              try dsimp only
              try simp only [m3_z, m3_f, m3_q, u2_m3_z, u2_m3_f, u2_m3_q, Int.reduceToNat]
              refine ⟨by (refine ⟨?_, ?_⟩ <;> omega), ?_⟩
              refine B_X10_timesFrom_96 ?_
              try dsimp only
              try simp only [m3_z, m3_f, m3_q, u2_m3_z, u2_m3_f, u2_m3_q, Int.reduceToNat]
              refine ⟨by (refine ⟨?_, ?_⟩ <;> omega), ?_⟩
              refine ih (j + 1) _ _ (by omega) ?_
              rw [show (j + 1).toNat = j.toNat + 1 by omega, hs]
              first
                | (rw [if_neg (by omega)]; omega)
                | (rw [if_pos ⟨by omega, by omega⟩]
                   unfold tmK
                   rw [← hr3]
                   first
                     | (rw [if_pos (by omega)]; omega)
                     | (rw [if_neg (by omega), if_pos (by omega)]; omega)
                     | (rw [if_neg (by omega), if_neg (by omega)]; omega))
          · refine B_X10_timesFrom_94 ?_
            try dsimp only
            try simp only [m3_z, m3_f, m3_q, u2_m3_z, u2_m3_f, u2_m3_q, Int.reduceToNat]
            refine ⟨by (refine ⟨?_, ?_⟩ <;> omega), ?_⟩
            refine B_X10_timesFrom_96 ?_
            try dsimp only
            try simp only [m3_z, m3_f, m3_q, u2_m3_z, u2_m3_f, u2_m3_q, Int.reduceToNat]
            refine ⟨by (refine ⟨?_, ?_⟩ <;> omega), ?_⟩
            refine ih (j + 1) _ _ (by omega) ?_
            rw [show (j + 1).toNat = j.toNat + 1 by omega, hs]
            first
              | (rw [if_neg (by omega)]; omega)
              | (rw [if_pos ⟨by omega, by omega⟩]
                 unfold tmK
                 rw [← hr3]
                 first
                   | (rw [if_pos (by omega)]; omega)
                   | (rw [if_neg (by omega), if_pos (by omega)]; omega)
                   | (rw [if_neg (by omega), if_neg (by omega)]; omega))
theorem C_timesFrom {G : amG} {I : Nat → Nat → Int} {z f q : Row} {R : Nat → Nat → Option Nat} {L : Nat → Nat → Int64} {x c t : Nat} {Q : amR → amH → Prop} (hG : amG0 G) (hR : RM R) (hh : wfH z) (hn : wfN z) (ht : wfT z) {v s : Int} (hv : isC v) (hQ : ∀ f q : Row, Q (Sum.inl (some (aI (tmN z v s (z 98).toNat)))) (m3 I z f q, R, L, SH, x, 0, 0)) : CT G sX10_timesFrom [aR (some 361), aI v, aI s] (m3 I z f q, R, L, SH, x, c, t) Q := by
  refine CT_of ok_X10_timesFrom hG (Nat.le_of_ble_eq_true rfl) ?_
  show X G mX10_timesFrom Q 0 _ [] (m3 I z f q, R, L, SH, x, 0, 0)
  refine B_X10_timesFrom_0 ?_
  try dsimp only
  try simp only [m3_z, m3_f, m3_q, u2_m3_z, u2_m3_f, u2_m3_q, Int.reduceToNat]
  refine ⟨⟨Nat.zero_le _, Nat.zero_le _, Nat.le_of_ble_eq_true rfl⟩, sh361, ?_⟩
  refine C_spread hG hR hh hn hv (fun f2 q2 hd => ?_)
  rw [opM_all] at hd
  refine af_N0 rfl rfl rfl ?_
  try dsimp only
  try simp only [m3_z, m3_f, m3_q, u2_m3_z, u2_m3_f, u2_m3_q, Int.reduceToNat]
  refine B_X10_timesFrom_6 ?_
  try dsimp only
  try simp only [m3_z, m3_f, m3_q, u2_m3_z, u2_m3_f, u2_m3_q, Int.reduceToNat]
  have hn1 := hn.1
  have hn2 := hn.2
  exact L_timesFrom hG hR hh hn ht hv (fun t ht2 => dSp_uniq hd (dF_sp hv) ht2) (hQ f2 q2) 13 0 0 none (by omega) rfl
theorem L_bestPost {G : amG} {I : Nat → Nat → Int} {R : Nat → Nat → Option Nat} {L : Nat → Nat → Int64} {x : Nat} {Q : amR → amH → Prop} (hG : amG0 G) (hR : RM R) {z : Row} (hh : wfH z) (hn : wfN z) (ht : wfT z) {s : Int} (hQ : ∀ f q : Row, Q (Sum.inl (some (aI (bpS z s 95).1))) (m3 I z f q, R, L, SH, x, 0, 0)) :
    ∀ (n : Nat) (j : Int) (f q : Row) (l5 : Option amV), (1 ≤ j ∧ j ≤ 96 ∧ 96 - j < n) → X G mX10_bestPost Q 37 [some (aR (some 361)), some (aI s), some (aI (bpS z s (j - 1).toNat).1), some (aI (bpS z s (j - 1).toNat).2), some (aI j), l5] [] (m3 I z f q, R, L, SH, x, 0, 0) := by
  intro n
  induction n with
  | zero =>
    intros
    exfalso; omega
  | succ n ih =>
    intro j f q l5 h1
    have hj : j = (((j - 1).toNat + 1 : Nat) : Int) := by omega
    have hs := bpS_s z s (j - 1).toNat
    have hQ' : j = 96 → ∀ f q : Row, Q (Sum.inl (some (aI (bpS z s (j - 1).toNat).1))) (m3 I z f q, R, L, SH, x, 0, 0) := fun e => by rw [e]; exact hQ
    generalize bpS z s (j - 1).toNat = S at *
    refine B_X10_bestPost_37 ?_
    try dsimp only
    try simp only [m3_z, m3_f, m3_q, u2_m3_z, u2_m3_f, u2_m3_q, Int.reduceToNat]
    refine ⟨fun c41_0 => ?_, fun c41_0 => ?_⟩
    · refine B_X10_bestPost_85 ?_
      try dsimp only
      try simp only [m3_z, m3_f, m3_q, u2_m3_z, u2_m3_f, u2_m3_q, Int.reduceToNat]
      exact hQ' (by omega) f q
    · refine ⟨⟨Nat.zero_le _, Nat.zero_le _, Nat.le_of_ble_eq_true rfl⟩, sh361, ?_⟩
      refine C_timesFrom hG hR hh hn ht (by unfold isC; omega) (fun f2 q2 => ?_)
      refine af_I0 rfl rfl (by decide) ?_
      try dsimp only
      try simp only [m3_z, m3_f, m3_q, u2_m3_z, u2_m3_f, u2_m3_q, Int.reduceToNat]
      refine B_X10_bestPost_51 ?_
      try dsimp only
      try simp only [m3_z, m3_f, m3_q, u2_m3_z, u2_m3_f, u2_m3_q, Int.reduceToNat]
      refine ⟨fun c56_1 => ?_, fun c56_1 => ?_⟩
      · refine B_X10_bestPost_64 ?_
        try dsimp only
        try simp only [m3_z, m3_f, m3_q, u2_m3_z, u2_m3_f, u2_m3_q, Int.reduceToNat]
        refine B_X10_bestPost_65 ?_
        try dsimp only
        try simp only [m3_z, m3_f, m3_q, u2_m3_z, u2_m3_f, u2_m3_q, Int.reduceToNat]
        refine ⟨fun c69_3 => ?_, fun c69_3 => ?_⟩
        · refine B_X10_bestPost_77 ?_
          try dsimp only
          try simp only [m3_z, m3_f, m3_q, u2_m3_z, u2_m3_f, u2_m3_q, Int.reduceToNat]
          refine B_X10_bestPost_78 ?_
          try dsimp only
          try simp only [m3_z, m3_f, m3_q, u2_m3_z, u2_m3_f, u2_m3_q, Int.reduceToNat]
          refine ⟨by (refine ⟨?_, ?_⟩ <;> omega), ?_⟩
          first
            | (exfalso; omega)
            | (have e := ih (j + 1) f2 q2 (some (aI (tmN z j s (z 98).toNat))) (by omega)
               rw [show (j + 1 - 1).toNat = (j - 1).toNat + 1 by omega, hs, ← hj] at e
               first
                 | (rw [if_pos (by omega)] at e; exact e)
                 | (rw [if_neg (by omega)] at e; exact e))
        · refine B_X10_bestPost_78 ?_
          try dsimp only
          try simp only [m3_z, m3_f, m3_q, u2_m3_z, u2_m3_f, u2_m3_q, Int.reduceToNat]
          refine ⟨by (refine ⟨?_, ?_⟩ <;> omega), ?_⟩
          first
            | (exfalso; omega)
            | (have e := ih (j + 1) f2 q2 (some (aI (tmN z j s (z 98).toNat))) (by omega)
               rw [show (j + 1 - 1).toNat = (j - 1).toNat + 1 by omega, hs, ← hj] at e
               first
                 | (rw [if_pos (by omega)] at e; exact e)
                 | (rw [if_neg (by omega)] at e; exact e))
      · refine B_X10_bestPost_65 ?_
        try dsimp only
        try simp only [m3_z, m3_f, m3_q, u2_m3_z, u2_m3_f, u2_m3_q, Int.reduceToNat]
        refine ⟨fun c69_2 => ?_, fun c69_2 => ?_⟩
        · refine B_X10_bestPost_77 ?_
          try dsimp only
          try simp only [m3_z, m3_f, m3_q, u2_m3_z, u2_m3_f, u2_m3_q, Int.reduceToNat]
          refine B_X10_bestPost_78 ?_
          try dsimp only
          try simp only [m3_z, m3_f, m3_q, u2_m3_z, u2_m3_f, u2_m3_q, Int.reduceToNat]
          refine ⟨by (refine ⟨?_, ?_⟩ <;> omega), ?_⟩
          first
            | (exfalso; omega)
            | (have e := ih (j + 1) f2 q2 (some (aI (tmN z j s (z 98).toNat))) (by omega)
               rw [show (j + 1 - 1).toNat = (j - 1).toNat + 1 by omega, hs, ← hj] at e
               first
                 | (rw [if_pos (by omega)] at e; exact e)
                 | (rw [if_neg (by omega)] at e; exact e))
        · refine B_X10_bestPost_78 ?_
          try dsimp only
          try simp only [m3_z, m3_f, m3_q, u2_m3_z, u2_m3_f, u2_m3_q, Int.reduceToNat]
          refine ⟨by (refine ⟨?_, ?_⟩ <;> omega), ?_⟩
          first
            | (exfalso; omega)
            | (have e := ih (j + 1) f2 q2 (some (aI (tmN z j s (z 98).toNat))) (by omega)
               rw [show (j + 1 - 1).toNat = (j - 1).toNat + 1 by omega, hs, ← hj] at e
               first
                 | (rw [if_pos (by omega)] at e; exact e)
                 | (rw [if_neg (by omega)] at e; exact e))
theorem C_bestPost {G : amG} {I : Nat → Nat → Int} {z f q : Row} {R : Nat → Nat → Option Nat} {L : Nat → Nat → Int64} {x c t : Nat} {Q : amR → amH → Prop} (hG : amG0 G) (hR : RM R) (hh : wfH z) (hn : wfN z) (ht : wfT z) {s : Int} (hQ : (¬ (0 ≤ s ∧ s ≤ 1) → Q (Sum.inl (some (aI 0))) (m3 (u2 I 361 0 1) z f q, R, L, SH, x, 0, 0)) ∧ ((0 ≤ s ∧ s ≤ 1) → ∀ f q : Row, Q (Sum.inl (some (aI (bpS z s 95).1))) (m3 (u2 I 361 0 0) z f q, R, L, SH, x, 0, 0))) : CT G sX10_bestPost [aR (some 361), aI s] (m3 I z f q, R, L, SH, x, c, t) Q := by
  refine CT_of ok_X10_bestPost hG (Nat.le_of_ble_eq_true rfl) ?_
  show X G mX10_bestPost Q 0 _ [] (m3 I z f q, R, L, SH, x, 0, 0)
  refine B_X10_bestPost_0 ?_
  try dsimp only
  try simp (disch := omega) only [m3_z, m3_f, m3_q, m3_o, u2_m3_z, u2_m3_f, u2_m3_q, u2_m3_o, pr_at, pr_off, u2_pr, u2_at, u2_off, uz_same, uz_ne, Int.reduceToNat]
  refine ⟨⟨Nat.zero_le _, Nat.zero_le _, Nat.le_of_ble_eq_true rfl⟩, trivial, ?_⟩
  refine C_isSide hG (fun r hr => ?_)
  refine af_I0 rfl rfl (by decide) ?_
  try dsimp only
  try simp (disch := omega) only [m3_z, m3_f, m3_q, m3_o, u2_m3_z, u2_m3_f, u2_m3_q, u2_m3_o, pr_at, pr_off, u2_pr, u2_at, u2_off, uz_same, uz_ne, Int.reduceToNat]
  refine B_X10_bestPost_5 ?_
  try dsimp only
  try simp (disch := omega) only [m3_z, m3_f, m3_q, m3_o, u2_m3_z, u2_m3_f, u2_m3_q, u2_m3_o, pr_at, pr_off, u2_pr, u2_at, u2_off, uz_same, uz_ne, Int.reduceToNat]
  refine ⟨fun c5_1 => ?_, fun c5_1 => ?_⟩
  · refine B_X10_bestPost_12 ?_
    try dsimp only
    try simp (disch := omega) only [m3_z, m3_f, m3_q, m3_o, u2_m3_z, u2_m3_f, u2_m3_q, u2_m3_o, pr_at, pr_off, u2_pr, u2_at, u2_off, uz_same, uz_ne, Int.reduceToNat]
    refine B_X10_bestPost_13 ?_
    try dsimp only
    try simp (disch := omega) only [m3_z, m3_f, m3_q, m3_o, u2_m3_z, u2_m3_f, u2_m3_q, u2_m3_o, pr_at, pr_off, u2_pr, u2_at, u2_off, uz_same, uz_ne, Int.reduceToNat]
    refine ⟨sh361, ?_⟩
    try simp (disch := omega) only [m3_z, m3_f, m3_q, m3_o, u2_m3_z, u2_m3_f, u2_m3_q, u2_m3_o, pr_at, pr_off, u2_pr, u2_at, u2_off, uz_same, uz_ne, Int.reduceToNat]
    refine ⟨sh361, ?_⟩
    refine ⟨fun c20_3 => ?_, fun c20_3 => ?_⟩
    · refine B_X10_bestPost_25 ?_
      try dsimp only
      try simp (disch := omega) only [m3_z, m3_f, m3_q, m3_o, u2_m3_z, u2_m3_f, u2_m3_q, u2_m3_o, pr_at, pr_off, u2_pr, u2_at, u2_off, uz_same, uz_ne, Int.reduceToNat]
      refine ⟨⟨Nat.zero_le _, Nat.zero_le _, Nat.le_of_ble_eq_true rfl⟩, sh361, ?_⟩
      refine C_timesFrom hG hR hh hn ht (by unfold isC; omega) (fun f2 q2 => ?_)
      refine af_I0 rfl rfl (by decide) ?_
      try dsimp only
      try simp (disch := omega) only [m3_z, m3_f, m3_q, m3_o, u2_m3_z, u2_m3_f, u2_m3_q, u2_m3_o, pr_at, pr_off, u2_pr, u2_at, u2_off, uz_same, uz_ne, Int.reduceToNat]
      refine B_X10_bestPost_33 ?_
      try dsimp only
      try simp (disch := omega) only [m3_z, m3_f, m3_q, m3_o, u2_m3_z, u2_m3_f, u2_m3_q, u2_m3_o, pr_at, pr_off, u2_pr, u2_at, u2_off, uz_same, uz_ne, Int.reduceToNat]
      first
        | (exfalso; omega)
        | (have e := L_bestPost hG hR hh hn ht (hQ.2 (by omega)) 96 1 f2 q2 none (by omega)
           rw [show ((1 : Int) - 1).toNat = 0 from rfl, bpS_0] at e
           exact e)
    · first
        | (exfalso; omega)
        | exact hQ.1 (by omega)
  · refine B_X10_bestPost_13 ?_
    try dsimp only
    try simp (disch := omega) only [m3_z, m3_f, m3_q, m3_o, u2_m3_z, u2_m3_f, u2_m3_q, u2_m3_o, pr_at, pr_off, u2_pr, u2_at, u2_off, uz_same, uz_ne, Int.reduceToNat]
    refine ⟨sh361, ?_⟩
    try simp (disch := omega) only [m3_z, m3_f, m3_q, m3_o, u2_m3_z, u2_m3_f, u2_m3_q, u2_m3_o, pr_at, pr_off, u2_pr, u2_at, u2_off, uz_same, uz_ne, Int.reduceToNat]
    refine ⟨sh361, ?_⟩
    refine ⟨fun c20_2 => ?_, fun c20_2 => ?_⟩
    · refine B_X10_bestPost_25 ?_
      try dsimp only
      try simp (disch := omega) only [m3_z, m3_f, m3_q, m3_o, u2_m3_z, u2_m3_f, u2_m3_q, u2_m3_o, pr_at, pr_off, u2_pr, u2_at, u2_off, uz_same, uz_ne, Int.reduceToNat]
      refine ⟨⟨Nat.zero_le _, Nat.zero_le _, Nat.le_of_ble_eq_true rfl⟩, sh361, ?_⟩
      refine C_timesFrom hG hR hh hn ht (by unfold isC; omega) (fun f2 q2 => ?_)
      refine af_I0 rfl rfl (by decide) ?_
      try dsimp only
      try simp (disch := omega) only [m3_z, m3_f, m3_q, m3_o, u2_m3_z, u2_m3_f, u2_m3_q, u2_m3_o, pr_at, pr_off, u2_pr, u2_at, u2_off, uz_same, uz_ne, Int.reduceToNat]
      refine B_X10_bestPost_33 ?_
      try dsimp only
      try simp (disch := omega) only [m3_z, m3_f, m3_q, m3_o, u2_m3_z, u2_m3_f, u2_m3_q, u2_m3_o, pr_at, pr_off, u2_pr, u2_at, u2_off, uz_same, uz_ne, Int.reduceToNat]
      first
        | (exfalso; omega)
        | (have e := L_bestPost hG hR hh hn ht (hQ.2 (by omega)) 96 1 f2 q2 none (by omega)
           rw [show ((1 : Int) - 1).toNat = 0 from rfl, bpS_0] at e
           exact e)
    · first
        | (exfalso; omega)
        | exact hQ.1 (by omega)
