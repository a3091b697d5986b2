theorem C_save {G : amG} {I : Nat → Nat → Int} {z f q : Row} {R : Nat → Nat → Option Nat} {L : Nat → Nat → Int64} {x c t : Nat} {Q : amR → amH → Prop} (hG : amG0 G) (hR : RM R) (hn : 0 ≤ I 361 2 ∧ I 361 2 ≤ 5) (hQ : Q (Sum.inl none) (m3 (u2 (pr I 363 (svS (I 363) z (I 361 2))) 361 2 (svN (I 361 2))) z f q, R, L, SH, x, 0, 0)) : CT G sX10_save [aR (some 361)] (m3 I z f q, R, L, SH, x, c, t) Q := by
  refine CT_of ok_X10_save hG (Nat.le_of_ble_eq_true rfl) ?_
  show X G mX10_save Q 0 _ [] (m3 I z f q, R, L, SH, x, 0, 0)
  refine B_X10_save_0 ?_
  try dsimp only
  try simp (disch := omega) only [m3_z, m3_f, m3_q, m3_o, u2_m3_z, u2_m3_f, u2_m3_q, u2_m3_o, pr_at, pr_off, u2_pr, u2_at, u2_off, uz_same, uz_ne, Int.reduceToNat]
  refine ⟨sh361, ?_⟩
  refine ⟨fun c5_0 => ?_, fun c5_0 => ?_⟩
  · have c5 : ¬ I 361 2 = 5 := by omega
    refine B_X10_save_51 ?_
    try dsimp only
    try simp (disch := omega) only [m3_z, m3_f, m3_q, m3_o, u2_m3_z, u2_m3_f, u2_m3_q, u2_m3_o, pr_at, pr_off, u2_pr, u2_at, u2_off, uz_same, uz_ne, Int.reduceToNat]
    have e0 : m3 I z f q = m3 (pr I 363 (I 363)) z f q := by rw [pr_self]
    rw [e0]
    refine L_saveB hG hR (b := I 361 2) (by omega) rfl ?_ 322 0 (by omega)
    refine B_X10_save_87 ?_
    try dsimp only
    try simp (disch := omega) only [m3_z, m3_f, m3_q, m3_o, u2_m3_z, u2_m3_f, u2_m3_q, u2_m3_o, pr_at, pr_off, u2_pr, u2_at, u2_off, uz_same, uz_ne, Int.reduceToNat]
    refine ⟨rfl, ?_⟩
    refine ⟨sh361, ?_⟩
    refine ⟨by (refine ⟨?_, ?_⟩ <;> omega), ?_⟩
    refine ⟨sh361, ?_⟩
    try simp (disch := omega) only [m3_z, m3_f, m3_q, m3_o, u2_m3_z, u2_m3_f, u2_m3_q, u2_m3_o, pr_at, pr_off, u2_pr, u2_at, u2_off, uz_same, uz_ne, Int.reduceToNat]
    refine ⟨rfl, ?_⟩
    have hQ := hQ
    unfold svS svN at hQ
    rw [if_neg c5, if_neg c5, if_neg c5] at hQ
    exact hQ
  · have c5 : I 361 2 = 5 := by omega
    have e0 : m3 I z f q = m3 (pr I 363 (shS (I 363) ((321 : Int) - 321).toNat)) z f q := by
      show m3 I z f q = m3 (pr I 363 (I 363)) z f q
      rw [pr_self]
    rw [e0]
    refine L_saveA hG hR ?_ 1285 321 (by omega)
    refine B_X10_save_41 ?_
    try dsimp only
    try simp (disch := omega) only [m3_z, m3_f, m3_q, m3_o, u2_m3_z, u2_m3_f, u2_m3_q, u2_m3_o, pr_at, pr_off, u2_pr, u2_at, u2_off, uz_same, uz_ne, Int.reduceToNat]
    refine ⟨rfl, ?_⟩
    refine ⟨sh361, ?_⟩
    refine ⟨by (refine ⟨?_, ?_⟩ <;> omega), ?_⟩
    refine ⟨sh361, ?_⟩
    try simp (disch := omega) only [m3_z, m3_f, m3_q, m3_o, u2_m3_z, u2_m3_f, u2_m3_q, u2_m3_o, pr_at, pr_off, u2_pr, u2_at, u2_off, uz_same, uz_ne, Int.reduceToNat]
    refine B_X10_save_51 ?_
    try dsimp only
    try simp (disch := omega) only [m3_z, m3_f, m3_q, m3_o, u2_m3_z, u2_m3_f, u2_m3_q, u2_m3_o, pr_at, pr_off, u2_pr, u2_at, u2_off, uz_same, uz_ne, Int.reduceToNat]
    rw [← pr_u2 _ _ _ _ (by decide)]
    refine L_saveB hG hR (b := I 361 2 - 1) (by omega) (by rw [u2_same]) ?_ 322 0 (by omega)
    refine B_X10_save_87 ?_
    try dsimp only
    try simp (disch := omega) only [m3_z, m3_f, m3_q, m3_o, u2_m3_z, u2_m3_f, u2_m3_q, u2_m3_o, pr_at, pr_off, u2_pr, u2_at, u2_off, uz_same, uz_ne, Int.reduceToNat]
    refine ⟨rfl, ?_⟩
    refine ⟨sh361, ?_⟩
    refine ⟨by (refine ⟨?_, ?_⟩ <;> omega), ?_⟩
    refine ⟨sh361, ?_⟩
    try simp (disch := omega) only [m3_z, m3_f, m3_q, m3_o, u2_m3_z, u2_m3_f, u2_m3_q, u2_m3_o, pr_at, pr_off, u2_pr, u2_at, u2_off, uz_same, uz_ne, Int.reduceToNat]
    refine ⟨rfl, ?_⟩
    rw [pr_u2 _ _ _ _ (by decide), u2_u2] at *
    have hQ := hQ
    unfold svS svN at hQ
    rw [if_pos c5, if_pos c5, if_pos c5] at hQ
    rw [show I 361 2 - 1 + 1 = 5 by omega]
    rw [show 321 * (I 361 2 - 1) = 321 * 4 by omega]
    exact hQ
theorem L_undo {G : amG} {I : Nat → Nat → Int} {R : Nat → Nat → Option Nat} {L : Nat → Nat → Int64} {x : Nat} {Q : amR → amH → Prop} (hG : amG0 G) (hR : RM R) {z f q : Row} {b : Int} (hb : 0 ≤ b ∧ b ≤ 4) (hS : I 361 2 = b) (hQ : Q (Sum.inl (some (aI b))) (m3 I (tkZ z (I 363) (321 * b).toNat 321) f q, R, L, SH, x, 0, 0)) :
    ∀ (n : Nat) (j : Int), 0 ≤ j ∧ j ≤ 321 ∧ 321 - j < n → X G mX10_undo Q 37 [some (aR (some 361)), some (aI j)] [] (m3 I (tkZ z (I 363) (321 * b).toNat j.toNat) f q, R, L, SH, x, 0, 0) := by
  intro n
  induction n with
  | zero =>
    intros
    exfalso; omega
  | succ n ih =>
    intro j h1
    have hs := tkZ_s z (I 363) (321 * b).toNat j.toNat
    have e1 : (321 * b + j).toNat = (321 * b).toNat + j.toNat := by omega
    refine B_X10_undo_37 ?_
    try dsimp only
    (try simp (disch := omega) only [m3_z, m3_f, m3_q, m3_o, u2_m3_z, u2_m3_f, u2_m3_q, u2_m3_o, pr_at, pr_off, u2_pr, u2_at, u2_off, uz_same, uz_ne, Int.reduceToNat]; try simp only [hS])
    refine ⟨fun c41_0 => ?_, fun c41_0 => ?_⟩
    · refine B_X10_undo_71 ?_
      try dsimp only
      (try simp (disch := omega) only [m3_z, m3_f, m3_q, m3_o, u2_m3_z, u2_m3_f, u2_m3_q, u2_m3_o, pr_at, pr_off, u2_pr, u2_at, u2_off, uz_same, uz_ne, Int.reduceToNat]; try simp only [hS])
      refine ⟨sh361, ?_⟩
      have e : j.toNat = 321 := by omega
      rw [e]
      exact hQ
    · refine ⟨sh361, _, hR.z, ?_⟩
      refine ⟨sh361, _, hR.saved, ?_⟩
      refine ⟨sh361, ?_⟩
      refine ⟨by (refine ⟨?_, ?_⟩ <;> omega), ?_⟩
      refine ⟨by (refine ⟨?_, ?_⟩ <;> omega), ?_⟩
      refine ⟨_, sh363, ⟨by omega, by omega⟩, ?_⟩
      (try simp (disch := omega) only [m3_z, m3_f, m3_q, m3_o, u2_m3_z, u2_m3_f, u2_m3_q, u2_m3_o, pr_at, pr_off, u2_pr, u2_at, u2_off, uz_same, uz_ne, Int.reduceToNat]; try simp only [hS])
      refine ⟨_, sh362, ⟨by omega, by omega⟩, ?_⟩
      (try simp (disch := omega) only [m3_z, m3_f, m3_q, m3_o, u2_m3_z, u2_m3_f, u2_m3_q, u2_m3_o, pr_at, pr_off, u2_pr, u2_at, u2_off, uz_same, uz_ne, Int.reduceToNat]; try simp only [hS])
      refine ⟨by (refine ⟨?_, ?_⟩ <;> omega), ?_⟩
      have e := ih (j + 1) (by omega)
      rw [show (j + 1).toNat = j.toNat + 1 by omega, hs, ← e1] at e
      exact e
theorem C_undo {G : amG} {I : Nat → Nat → Int} {z f q : Row} {R : Nat → Nat → Option Nat} {L : Nat → Nat → Int64} {x c t : Nat} {Q : amR → amH → Prop} (hG : amG0 G) (hR : RM R) (hn : 0 ≤ I 361 2 ∧ I 361 2 ≤ 5) (hQ : (I 361 2 = 0 → Q (Sum.inl (some (aI 0))) (m3 (u2 I 361 0 1) z f q, R, L, SH, x, 0, 0)) ∧ (0 < I 361 2 → Q (Sum.inl (some (aI (I 361 2 - 1)))) (m3 (u2 (u2 I 361 0 0) 361 2 (I 361 2 - 1)) (tkZ z (I 363) (321 * (I 361 2 - 1)).toNat 321) f q, R, L, SH, x, 0, 0))) : CT G sX10_undo [aR (some 361)] (m3 I z f q, R, L, SH, x, c, t) Q := by
  refine CT_of ok_X10_undo hG (Nat.le_of_ble_eq_true rfl) ?_
  show X G mX10_undo Q 0 _ [] (m3 I z f q, R, L, SH, x, 0, 0)
  refine B_X10_undo_0 ?_
  try dsimp only
  try simp (disch := omega) only [m3_z, m3_f, m3_q, m3_o, u2_m3_z, u2_m3_f, u2_m3_q, u2_m3_o, pr_at, pr_off, u2_pr, u2_at, u2_off, uz_same, uz_ne, Int.reduceToNat]
  refine ⟨sh361, ?_⟩
  refine ⟨fun c5_0 => ?_, fun c5_0 => ?_⟩
  · refine B_X10_undo_12 ?_
    try dsimp only
    try simp (disch := omega) only [m3_z, m3_f, m3_q, m3_o, u2_m3_z, u2_m3_f, u2_m3_q, u2_m3_o, pr_at, pr_off, u2_pr, u2_at, u2_off, uz_same, uz_ne, Int.reduceToNat]
    refine B_X10_undo_13 ?_
    try dsimp only
    try simp (disch := omega) only [m3_z, m3_f, m3_q, m3_o, u2_m3_z, u2_m3_f, u2_m3_q, u2_m3_o, pr_at, pr_off, u2_pr, u2_at, u2_off, uz_same, uz_ne, Int.reduceToNat]
    refine ⟨sh361, ?_⟩
    try simp (disch := omega) only [m3_z, m3_f, m3_q, m3_o, u2_m3_z, u2_m3_f, u2_m3_q, u2_m3_o, pr_at, pr_off, u2_pr, u2_at, u2_off, uz_same, uz_ne, Int.reduceToNat]
    refine ⟨sh361, ?_⟩
    refine ⟨fun c20_2 => ?_, fun c20_2 => ?_⟩
    · refine B_X10_undo_25 ?_
      try dsimp only
      try simp (disch := omega) only [m3_z, m3_f, m3_q, m3_o, u2_m3_z, u2_m3_f, u2_m3_q, u2_m3_o, pr_at, pr_off, u2_pr, u2_at, u2_off, uz_same, uz_ne, Int.reduceToNat]
      refine ⟨rfl, ?_⟩
      refine ⟨sh361, ?_⟩
      refine ⟨by (refine ⟨?_, ?_⟩ <;> omega), ?_⟩
      refine ⟨sh361, ?_⟩
      try simp (disch := omega) only [m3_z, m3_f, m3_q, m3_o, u2_m3_z, u2_m3_f, u2_m3_q, u2_m3_o, pr_at, pr_off, u2_pr, u2_at, u2_off, uz_same, uz_ne, Int.reduceToNat]
      first
        | (exfalso; omega)
        | (refine L_undo hG hR (b := I 361 2 - 1) (by omega) (by rw [u2_same]) ?_ 322 0 (by omega)
           have hQ := hQ.2 (by omega)
           rw [u2_off _ _ _ (by decide), u2_off _ _ _ (by decide)]
           exact hQ)
    · first
        | (exfalso; omega)
        | exact hQ.1 (by omega)
  · refine B_X10_undo_13 ?_
    try dsimp only
    try simp (disch := omega) only [m3_z, m3_f, m3_q, m3_o, u2_m3_z, u2_m3_f, u2_m3_q, u2_m3_o, pr_at, pr_off, u2_pr, u2_at, u2_off, uz_same, uz_ne, Int.reduceToNat]
    refine ⟨sh361, ?_⟩
    try simp (disch := omega) only [m3_z, m3_f, m3_q, m3_o, u2_m3_z, u2_m3_f, u2_m3_q, u2_m3_o, pr_at, pr_off, u2_pr, u2_at, u2_off, uz_same, uz_ne, Int.reduceToNat]
    refine ⟨sh361, ?_⟩
    refine ⟨fun c20_1 => ?_, fun c20_1 => ?_⟩
    · refine B_X10_undo_25 ?_
      try dsimp only
      try simp (disch := omega) only [m3_z, m3_f, m3_q, m3_o, u2_m3_z, u2_m3_f, u2_m3_q, u2_m3_o, pr_at, pr_off, u2_pr, u2_at, u2_off, uz_same, uz_ne, Int.reduceToNat]
      refine ⟨rfl, ?_⟩
      refine ⟨sh361, ?_⟩
      refine ⟨by (refine ⟨?_, ?_⟩ <;> omega), ?_⟩
      refine ⟨sh361, ?_⟩
      try simp (disch := omega) only [m3_z, m3_f, m3_q, m3_o, u2_m3_z, u2_m3_f, u2_m3_q, u2_m3_o, pr_at, pr_off, u2_pr, u2_at, u2_off, uz_same, uz_ne, Int.reduceToNat]
      first
        | (exfalso; omega)
        | (refine L_undo hG hR (b := I 361 2 - 1) (by omega) (by rw [u2_same]) ?_ 322 0 (by omega)
           have hQ := hQ.2 (by omega)
           rw [u2_off _ _ _ (by decide), u2_off _ _ _ (by decide)]
           exact hQ)
    · first
        | (exfalso; omega)
        | exact hQ.1 (by omega)
theorem L_keep {G : amG} {I : Nat → Nat → Int} {R : Nat → Nat → Option Nat} {L : Nat → Nat → Int64} {x : Nat} {Q : amR → amH → Prop} (hG : amG0 G) (hR : RM R) {z f q a : Row} (hQ : Q (Sum.inl none) (m3 (pr I 367 (cpS a z 0 321)) z f q, R, L, SH, x, 0, 0)) :
    ∀ (n : Nat) (j : Int), 0 ≤ j ∧ j ≤ 321 ∧ 321 - j < n → X G mX10_keepAside Q 2 [some (aR (some 361)), some (aI j)] [] (m3 (pr I 367 (cpS a z 0 j.toNat)) z f q, R, L, SH, x, 0, 0) := by
  intro n
  induction n with
  | zero =>
    intros
    exfalso; omega
  | succ n ih =>
    intro j h1
    have hs := cpS_s a z 0 j.toNat
    refine B_X10_keepAside_2 ?_
    try dsimp only
    try simp (disch := omega) only [m3_z, m3_f, m3_q, m3_o, u2_m3_z, u2_m3_f, u2_m3_q, u2_m3_o, pr_at, pr_off, u2_pr, u2_at, u2_off, uz_same, uz_ne, Int.reduceToNat]
    refine ⟨fun c6_0 => ?_, fun c6_0 => ?_⟩
    · refine B_X10_keepAside_27 ?_
      try dsimp only
      try simp (disch := omega) only [m3_z, m3_f, m3_q, m3_o, u2_m3_z, u2_m3_f, u2_m3_q, u2_m3_o, pr_at, pr_off, u2_pr, u2_at, u2_off, uz_same, uz_ne, Int.reduceToNat]
      refine ⟨rfl, ?_⟩
      have e : j.toNat = 321 := by omega
      rw [e]
      exact hQ
    · refine ⟨sh361, _, hR.aside, ?_⟩
      refine ⟨sh361, _, hR.z, ?_⟩
      refine ⟨_, sh362, ⟨by omega, by omega⟩, ?_⟩
      try simp (disch := omega) only [m3_z, m3_f, m3_q, m3_o, u2_m3_z, u2_m3_f, u2_m3_q, u2_m3_o, pr_at, pr_off, u2_pr, u2_at, u2_off, uz_same, uz_ne, Int.reduceToNat]
      refine ⟨_, sh367, ⟨by omega, by omega⟩, ?_⟩
      try simp (disch := omega) only [m3_z, m3_f, m3_q, m3_o, u2_m3_z, u2_m3_f, u2_m3_q, u2_m3_o, pr_at, pr_off, u2_pr, u2_at, u2_off, uz_same, uz_ne, Int.reduceToNat]
      refine ⟨by (refine ⟨?_, ?_⟩ <;> omega), ?_⟩
      have e := ih (j + 1) (by omega)
      rw [show (j + 1).toNat = j.toNat + 1 by omega, hs, Nat.zero_add] at e
      exact e
theorem C_keepAside {G : amG} {I : Nat → Nat → Int} {z f q : Row} {R : Nat → Nat → Option Nat} {L : Nat → Nat → Int64} {x c t : Nat} {Q : amR → amH → Prop} (hG : amG0 G) (hR : RM R) (hQ : Q (Sum.inl none) (m3 (pr I 367 (cpS (I 367) z 0 321)) z f q, R, L, SH, x, 0, 0)) : CT G sX10_keepAside [aR (some 361)] (m3 I z f q, R, L, SH, x, c, t) Q := by
  refine CT_of ok_X10_keepAside hG (Nat.le_of_ble_eq_true rfl) ?_
  show X G mX10_keepAside Q 0 _ [] (m3 I z f q, R, L, SH, x, 0, 0)
  refine B_X10_keepAside_0 ?_
  try dsimp only
  try simp (disch := omega) only [m3_z, m3_f, m3_q, m3_o, u2_m3_z, u2_m3_f, u2_m3_q, u2_m3_o, pr_at, pr_off, u2_pr, u2_at, u2_off, uz_same, uz_ne, Int.reduceToNat]
  have e0 : m3 I z f q = m3 (pr I 367 (I 367)) z f q := by rw [pr_self]
  rw [e0]
  exact L_keep hG hR hQ 322 0 (by omega)
theorem L_take {G : amG} {I : Nat → Nat → Int} {R : Nat → Nat → Option Nat} {L : Nat → Nat → Int64} {x : Nat} {Q : amR → amH → Prop} (hG : amG0 G) (hR : RM R) {z f q : Row} (hQ : Q (Sum.inl none) (m3 I (tkZ z (I 367) 0 321) f q, R, L, SH, x, 0, 0)) :
    ∀ (n : Nat) (j : Int), 0 ≤ j ∧ j ≤ 321 ∧ 321 - j < n → X G mX10_takeBack Q 2 [some (aR (some 361)), some (aI j)] [] (m3 I (tkZ z (I 367) 0 j.toNat) f q, R, L, SH, x, 0, 0) := by
  intro n
  induction n with
  | zero =>
    intros
    exfalso; omega
  | succ n ih =>
    intro j h1
    have hs := tkZ_s z (I 367) 0 j.toNat
    refine B_X10_takeBack_2 ?_
    try dsimp only
    try simp (disch := omega) only [m3_z, m3_f, m3_q, m3_o, u2_m3_z, u2_m3_f, u2_m3_q, u2_m3_o, pr_at, pr_off, u2_pr, u2_at, u2_off, uz_same, uz_ne, Int.reduceToNat]
    refine ⟨fun c6_0 => ?_, fun c6_0 => ?_⟩
    · refine B_X10_takeBack_27 ?_
      try dsimp only
      try simp (disch := omega) only [m3_z, m3_f, m3_q, m3_o, u2_m3_z, u2_m3_f, u2_m3_q, u2_m3_o, pr_at, pr_off, u2_pr, u2_at, u2_off, uz_same, uz_ne, Int.reduceToNat]
      refine ⟨rfl, ?_⟩
      have e : j.toNat = 321 := by omega
      rw [e]
      exact hQ
    · refine ⟨sh361, _, hR.z, ?_⟩
      refine ⟨sh361, _, hR.aside, ?_⟩
      refine ⟨_, sh367, ⟨by omega, by omega⟩, ?_⟩
      try simp (disch := omega) only [m3_z, m3_f, m3_q, m3_o, u2_m3_z, u2_m3_f, u2_m3_q, u2_m3_o, pr_at, pr_off, u2_pr, u2_at, u2_off, uz_same, uz_ne, Int.reduceToNat]
      refine ⟨_, sh362, ⟨by omega, by omega⟩, ?_⟩
      try simp (disch := omega) only [m3_z, m3_f, m3_q, m3_o, u2_m3_z, u2_m3_f, u2_m3_q, u2_m3_o, pr_at, pr_off, u2_pr, u2_at, u2_off, uz_same, uz_ne, Int.reduceToNat]
      refine ⟨by (refine ⟨?_, ?_⟩ <;> omega), ?_⟩
      have e := ih (j + 1) (by omega)
      rw [show (j + 1).toNat = j.toNat + 1 by omega, hs, Nat.zero_add] at e
      exact e
theorem C_takeBack {G : amG} {I : Nat → Nat → Int} {z f q : Row} {R : Nat → Nat → Option Nat} {L : Nat → Nat → Int64} {x c t : Nat} {Q : amR → amH → Prop} (hG : amG0 G) (hR : RM R) (hQ : Q (Sum.inl none) (m3 I (tkZ z (I 367) 0 321) f q, R, L, SH, x, 0, 0)) : CT G sX10_takeBack [aR (some 361)] (m3 I z f q, R, L, SH, x, c, t) Q := by
  refine CT_of ok_X10_takeBack hG (Nat.le_of_ble_eq_true rfl) ?_
  show X G mX10_takeBack Q 0 _ [] (m3 I z f q, R, L, SH, x, 0, 0)
  refine B_X10_takeBack_0 ?_
  try dsimp only
  try simp (disch := omega) only [m3_z, m3_f, m3_q, m3_o, u2_m3_z, u2_m3_f, u2_m3_q, u2_m3_o, pr_at, pr_off, u2_pr, u2_at, u2_off, uz_same, uz_ne, Int.reduceToNat]
  exact L_take hG hR hQ 322 0 (by omega)
