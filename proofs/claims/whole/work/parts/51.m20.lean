/-! ===== the model: what would be ===== -/
theorem pass_hi {z : Row} (h : WF z) {i : Nat} (hi : 321 ≤ i) : passZ z i = z i := by
  obtain ⟨b1, o1, i1, t1, k1, l1⟩ := psA_inv h
  have b2 := fightZ_B b1
  obtain ⟨s1, s2, s3⟩ := setN_inv b2 (z 98).toNat (by
    have e1 := fightZ_off b1.2.1 b1.2.2.1 (i := 98) (by omega)
    have e2 := i1 98 (by omega)
    have := h.1.2.1.1
    omega)
  show setN _ _ i = _
  rw [s2 i (by omega), fightZ_off b1.2.1 b1.2.2.1 (by omega), i1 i (by omega)]
def passN (z : Row) : Nat → Row
  | 0 => z
  | n + 1 => passZ (passN z n)
theorem passN_s (z : Row) (n : Nat) : passN z (n + 1) = passZ (passN z n) := rfl
theorem passN_inv {z : Row} (h : WF z) : ∀ n : Nat, z 316 + n ≤ 1061 → WF (passN z n) ∧ passN z n 316 = z 316 + n ∧ passN z n 98 = z 98 ∧ passN z n 317 = z 317 ∧ (∀ i : Nat, i < 99 → passN z n i = z i) ∧ (∀ i : Nat, 321 ≤ i → passN z n i = z i) := by
  intro n
  induction n with
  | zero => intro _; exact ⟨h, by show z 316 = z 316 + ((0 : Nat) : Int); omega, rfl, rfl, fun i _ => rfl, fun i _ => rfl⟩
  | succ n ih =>
    intro hn
    obtain ⟨h1, h2, h3, h4, h5, h6⟩ := ih (by omega)
    obtain ⟨p1, p2, p3, p4, p5⟩ := pass_inv h1 (by omega)
    rw [passN_s]
    exact ⟨p1, by omega, by omega, by omega, fun i hi => by rw [p5 i hi, h5 i hi], fun i hi => by rw [pass_hi h1 hi, h6 i hi]⟩
theorem back {z y a : Row} (h : ∀ i : Nat, 321 ≤ i → y i = z i) : tkZ y (cpS a z 0 321) 0 321 = z := funext (fun j => by
  rw [tkZ_at]
  split
  · rename_i q
    rw [cpS_at, if_pos (by omega)]
    congr 1
    omega
  · rename_i q
    exact h j (by omega))
/-- troop k is where it wants to be -/
def atG (z : Row) (k : Nat) : Bool := decide (tf z k 4 ≠ 2 ∧ tf z k 1 = tf z k 3)
def arF (z : Row) (k : Nat) : Nat → Nat → Int
  | 0, _ => -1
  | g + 1, n => if atG (passN z n) k = true then (n : Int) else arF z k g (n + 1)
theorem arF_s (z : Row) (k g n : Nat) : arF z k (g + 1) n = if atG (passN z n) k = true then (n : Int) else arF z k g (n + 1) := rfl
theorem L_passed {G : amG} {I : Nat → Nat → Int} {R : Nat → Nat → Option Nat} {L : Nat → Nat → Int64} {x : Nat} {Q : amR → amH → Prop} (hG : amG0 G) (hR : RM R) {z : Row} {u w : Int} (hW : WF z) (hu : 0 ≤ u ∧ z 316 + u ≤ 1061) (hK : ∀ f q : Row, X G mX10_passed Q 21 [some (aR (some 361)), some (aI u), some (aI w), some (aI u)] [] (m3 I (passN z u.toNat) f q, R, L, SH, x, 0, 0)) :
    ∀ (n : Nat) (j : Int) (f q : Row), (0 ≤ j ∧ j ≤ u ∧ u - j < n) → X G mX10_passed Q 6 [some (aR (some 361)), some (aI u), some (aI w), some (aI j)] [] (m3 I (passN z j.toNat) f q, R, L, SH, x, 0, 0) := by
  intro n
  induction n with
  | zero =>
    intros
    exfalso; omega
  | succ n ih =>
    intro j f q h1
    have hz := passN_inv hW j.toNat (by omega)
    have hs := passN_s z j.toNat
    have h0C := hW.2.2.1.1
    refine B_X10_passed_6 ?_
    try dsimp only
    try simp (disch := omega) only [m3_z, m3_f, m3_q, m3_o, u2_m3_z, u2_m3_f, u2_m3_q, u2_m3_o, pr_at, pr_off, u2_pr, u2_at, u2_off, uz_same, uz_ne, Int.reduceToNat]
    refine ⟨fun c8_0 => ?_, fun c8_0 => ?_⟩
    · have e : j = u := by omega
      rw [e]
      exact hK f q
    · refine ⟨⟨Nat.zero_le _, Nat.zero_le _, Nat.le_of_ble_eq_true rfl⟩, sh361, ?_⟩
      refine C_passOne hG hR hz.1 (by omega) (fun f2 q2 => ?_)
      refine af_N0 rfl rfl rfl ?_
      try dsimp only
      try simp (disch := omega) only [m3_z, m3_f, m3_q, m3_o, u2_m3_z, u2_m3_f, u2_m3_q, u2_m3_o, pr_at, pr_off, u2_pr, u2_at, u2_off, uz_same, uz_ne, Int.reduceToNat]
      refine B_X10_passed_15 ?_
      try dsimp only
      try simp (disch := omega) only [m3_z, m3_f, m3_q, m3_o, u2_m3_z, u2_m3_f, u2_m3_q, u2_m3_o, pr_at, pr_off, u2_pr, u2_at, u2_off, uz_same, uz_ne, Int.reduceToNat]
      refine ⟨by (refine ⟨?_, ?_⟩ <;> omega), ?_⟩
      have e := ih (j + 1) f2 q2 (by omega)
      rw [show (j + 1).toNat = j.toNat + 1 by omega, hs] at e
      exact e
theorem C_passed {G : amG} {I : Nat → Nat → Int} {z f q : Row} {R : Nat → Nat → Option Nat} {L : Nat → Nat → Int64} {x c t : Nat} {Q : amR → amH → Prop} (hG : amG0 G) (hR : RM R) {u w : Int} (hW : WF z) (hu : 0 ≤ u ∧ z 316 + u ≤ 1061) (hw : 0 ≤ w ∧ w ≤ 12) (hQ : ∀ a f q : Row, Q (Sum.inl (some (aI (cntZ (passN z u.toNat) w)))) (m3 (pr I 367 a) z f q, R, L, SH, x, 0, 0)) : CT G sX10_passed [aR (some 361), aI u, aI w] (m3 I z f q, R, L, SH, x, c, t) Q := by
  refine CT_of ok_X10_passed hG (Nat.le_of_ble_eq_true rfl) ?_
  show X G mX10_passed Q 0 _ [] (m3 I z f q, R, L, SH, x, 0, 0)
  refine B_X10_passed_0 ?_
  try dsimp only
  try simp (disch := omega) only [m3_z, m3_f, m3_q, m3_o, u2_m3_z, u2_m3_f, u2_m3_q, u2_m3_o, pr_at, pr_off, u2_pr, u2_at, u2_off, uz_same, uz_ne, Int.reduceToNat]
  refine ⟨⟨Nat.zero_le _, Nat.zero_le _, Nat.le_of_ble_eq_true rfl⟩, sh361, ?_⟩
  refine C_keepAside hG hR ?_
  refine af_N0 rfl rfl rfl ?_
  try dsimp only
  try simp (disch := omega) only [m3_z, m3_f, m3_q, m3_o, u2_m3_z, u2_m3_f, u2_m3_q, u2_m3_o, pr_at, pr_off, u2_pr, u2_at, u2_off, uz_same, uz_ne, Int.reduceToNat]
  refine B_X10_passed_4 ?_
  try dsimp only
  try simp (disch := omega) only [m3_z, m3_f, m3_q, m3_o, u2_m3_z, u2_m3_f, u2_m3_q, u2_m3_o, pr_at, pr_off, u2_pr, u2_at, u2_off, uz_same, uz_ne, Int.reduceToNat]
  have hz := passN_inv hW u.toNat (by omega)
  refine L_passed hG hR hW hu (fun f2 q2 => ?_) (u.toNat + 1) 0 _ _ (by omega)
  refine B_X10_passed_21 ?_
  try dsimp only
  try simp (disch := omega) only [m3_z, m3_f, m3_q, m3_o, u2_m3_z, u2_m3_f, u2_m3_q, u2_m3_o, pr_at, pr_off, u2_pr, u2_at, u2_off, uz_same, uz_ne, Int.reduceToNat]
  refine ⟨⟨Nat.zero_le _, Nat.zero_le _, Nat.le_of_ble_eq_true rfl⟩, sh361, ?_⟩
  refine C_counted hG hR (I := m3 _ (passN z u.toNat) f2 q2) hz.1.1.2.1 hz.1.1.2.2.1 (by omega) (fun r hr => ?_)
  rw [if_neg (by omega)] at hr
  have hr : r = cntZ (passN z u.toNat) w := hr
  refine af_I0 rfl rfl (by decide) ?_
  try dsimp only
  try simp (disch := omega) only [m3_z, m3_f, m3_q, m3_o, u2_m3_z, u2_m3_f, u2_m3_q, u2_m3_o, pr_at, pr_off, u2_pr, u2_at, u2_off, uz_same, uz_ne, Int.reduceToNat]
  refine B_X10_passed_26 ?_
  try dsimp only
  try simp (disch := omega) only [m3_z, m3_f, m3_q, m3_o, u2_m3_z, u2_m3_f, u2_m3_q, u2_m3_o, pr_at, pr_off, u2_pr, u2_at, u2_off, uz_same, uz_ne, Int.reduceToNat]
  refine ⟨⟨Nat.zero_le _, Nat.zero_le _, Nat.le_of_ble_eq_true rfl⟩, sh361, ?_⟩
  refine C_takeBack hG hR ?_
  rw [pr_at, back (fun i hi => hz.2.2.2.2.2 i hi)]
  refine af_N0 rfl rfl rfl ?_
  try dsimp only
  try simp (disch := omega) only [m3_z, m3_f, m3_q, m3_o, u2_m3_z, u2_m3_f, u2_m3_q, u2_m3_o, pr_at, pr_off, u2_pr, u2_at, u2_off, uz_same, uz_ne, Int.reduceToNat]
  refine B_X10_passed_31 ?_
  try dsimp only
  try simp (disch := omega) only [m3_z, m3_f, m3_q, m3_o, u2_m3_z, u2_m3_f, u2_m3_q, u2_m3_o, pr_at, pr_off, u2_pr, u2_at, u2_off, uz_same, uz_ne, Int.reduceToNat]
  rw [hr]
  exact hQ _ _ _
theorem C_ifPassed {G : amG} {I : Nat → Nat → Int} {z f q : Row} {R : Nat → Nat → Option Nat} {L : Nat → Nat → Int64} {x c t : Nat} {Q : amR → amH → Prop} (hG : amG0 G) (hR : RM R) {u w : Int} (hW : WF z) (hm : z 316 ≤ 1000) (hQ : (¬ ((1 ≤ u ∧ u ≤ 50) ∧ (w = 2 ∨ w = 3 ∨ (6 ≤ w ∧ w ≤ 10))) → Q (Sum.inl (some (aI 0))) (m3 (u2 I 361 0 1) z f q, R, L, SH, x, 0, 0)) ∧ ((1 ≤ u ∧ u ≤ 50) ∧ (w = 2 ∨ w = 3 ∨ (6 ≤ w ∧ w ≤ 10)) → ∀ a f q : Row, Q (Sum.inl (some (aI (cntZ (passN z u.toNat) w)))) (m3 (pr (u2 I 361 0 0) 367 a) z f q, R, L, SH, x, 0, 0))) : CT G sX10_ifPassed [aR (some 361), aI u, aI w] (m3 I z f q, R, L, SH, x, c, t) Q := by
  refine CT_of ok_X10_ifPassed hG (Nat.le_of_ble_eq_true rfl) ?_
  show X G mX10_ifPassed Q 0 _ [] (m3 I z f q, R, L, SH, x, 0, 0)
  refine B_X10_ifPassed_0 ?_
  try dsimp only
  try simp (disch := omega) only [m3_z, m3_f, m3_q, m3_o, u2_m3_z, u2_m3_f, u2_m3_q, u2_m3_o, pr_at, pr_off, u2_pr, u2_at, u2_off, uz_same, uz_ne, Int.reduceToNat]
  refine ⟨⟨Nat.zero_le _, Nat.zero_le _, Nat.le_of_ble_eq_true rfl⟩, trivial, ?_⟩
  refine C_within hG (fun r4 hr4 => ?_)
  refine af_I0 rfl rfl (by decide) ?_
  try dsimp only
  try simp (disch := omega) only [m3_z, m3_f, m3_q, m3_o, u2_m3_z, u2_m3_f, u2_m3_q, u2_m3_o, pr_at, pr_off, u2_pr, u2_at, u2_off, uz_same, uz_ne, Int.reduceToNat]
  refine B_X10_ifPassed_7 ?_
  try dsimp only
  try simp (disch := omega) only [m3_z, m3_f, m3_q, m3_o, u2_m3_z, u2_m3_f, u2_m3_q, u2_m3_o, pr_at, pr_off, u2_pr, u2_at, u2_off, uz_same, uz_ne, Int.reduceToNat]
  refine ⟨fun c7_1 => ?_, fun c7_1 => ?_⟩
  · refine B_X10_ifPassed_34 ?_
    try dsimp only
    try simp (disch := omega) only [m3_z, m3_f, m3_q, m3_o, u2_m3_z, u2_m3_f, u2_m3_q, u2_m3_o, pr_at, pr_off, u2_pr, u2_at, u2_off, uz_same, uz_ne, Int.reduceToNat]
    refine B_X10_ifPassed_35 ?_
    try dsimp only
    try simp (disch := omega) only [m3_z, m3_f, m3_q, m3_o, u2_m3_z, u2_m3_f, u2_m3_q, u2_m3_o, pr_at, pr_off, u2_pr, u2_at, u2_off, uz_same, uz_ne, Int.reduceToNat]
    refine ⟨fun c38_3 => ?_, fun c38_3 => ?_⟩
    · refine B_X10_ifPassed_45 ?_
      try dsimp only
      try simp (disch := omega) only [m3_z, m3_f, m3_q, m3_o, u2_m3_z, u2_m3_f, u2_m3_q, u2_m3_o, pr_at, pr_off, u2_pr, u2_at, u2_off, uz_same, uz_ne, Int.reduceToNat]
      refine B_X10_ifPassed_46 ?_
      try dsimp only
      try simp (disch := omega) only [m3_z, m3_f, m3_q, m3_o, u2_m3_z, u2_m3_f, u2_m3_q, u2_m3_o, pr_at, pr_off, u2_pr, u2_at, u2_off, uz_same, uz_ne, Int.reduceToNat]
      refine ⟨sh361, ?_⟩
      try simp (disch := omega) only [m3_z, m3_f, m3_q, m3_o, u2_m3_z, u2_m3_f, u2_m3_q, u2_m3_o, pr_at, pr_off, u2_pr, u2_at, u2_off, uz_same, uz_ne, Int.reduceToNat]
      refine ⟨sh361, ?_⟩
      refine ⟨fun c53_5 => ?_, fun c53_5 => ?_⟩
      · refine B_X10_ifPassed_60 ?_
        try dsimp only
        try simp (disch := omega) only [m3_z, m3_f, m3_q, m3_o, u2_m3_z, u2_m3_f, u2_m3_q, u2_m3_o, pr_at, pr_off, u2_pr, u2_at, u2_off, uz_same, uz_ne, Int.reduceToNat]
        first
          | (exfalso; omega)
          | exact absurd True.intro (by assumption)
          | (refine ⟨⟨Nat.zero_le _, Nat.zero_le _, Nat.le_of_ble_eq_true rfl⟩, sh361, ?_⟩
             refine C_passed hG hR hW (by omega) (by omega) (fun a f2 q2 => ?_)
             refine af_I0 rfl rfl (by decide) ?_
             try dsimp only
             try simp (disch := omega) only [m3_z, m3_f, m3_q, m3_o, u2_m3_z, u2_m3_f, u2_m3_q, u2_m3_o, pr_at, pr_off, u2_pr, u2_at, u2_off, uz_same, uz_ne, Int.reduceToNat]
             refine B_X10_ifPassed_66 ?_
             try dsimp only
             try simp (disch := omega) only [m3_z, m3_f, m3_q, m3_o, u2_m3_z, u2_m3_f, u2_m3_q, u2_m3_o, pr_at, pr_off, u2_pr, u2_at, u2_off, uz_same, uz_ne, Int.reduceToNat]
             first
               | exact absurd True.intro (by assumption)
               | (exfalso; omega)
               | exact hQ.1 (by omega)
               | exact hQ.2 (by omega) _ _ _)
      · refine B_X10_ifPassed_66 ?_
        try dsimp only
        try simp (disch := omega) only [m3_z, m3_f, m3_q, m3_o, u2_m3_z, u2_m3_f, u2_m3_q, u2_m3_o, pr_at, pr_off, u2_pr, u2_at, u2_off, uz_same, uz_ne, Int.reduceToNat]
        first
          | exact absurd True.intro (by assumption)
          | (exfalso; omega)
          | exact hQ.1 (by omega)
          | exact hQ.2 (by omega) _ _ _
    · refine B_X10_ifPassed_46 ?_
      try dsimp only
      try simp (disch := omega) only [m3_z, m3_f, m3_q, m3_o, u2_m3_z, u2_m3_f, u2_m3_q, u2_m3_o, pr_at, pr_off, u2_pr, u2_at, u2_off, uz_same, uz_ne, Int.reduceToNat]
      refine ⟨sh361, ?_⟩
      try simp (disch := omega) only [m3_z, m3_f, m3_q, m3_o, u2_m3_z, u2_m3_f, u2_m3_q, u2_m3_o, pr_at, pr_off, u2_pr, u2_at, u2_off, uz_same, uz_ne, Int.reduceToNat]
      refine ⟨sh361, ?_⟩
      refine ⟨fun c53_4 => ?_, fun c53_4 => ?_⟩
      · refine B_X10_ifPassed_60 ?_
        try dsimp only
        try simp (disch := omega) only [m3_z, m3_f, m3_q, m3_o, u2_m3_z, u2_m3_f, u2_m3_q, u2_m3_o, pr_at, pr_off, u2_pr, u2_at, u2_off, uz_same, uz_ne, Int.reduceToNat]
        first
          | (exfalso; omega)
          | exact absurd True.intro (by assumption)
          | (refine ⟨⟨Nat.zero_le _, Nat.zero_le _, Nat.le_of_ble_eq_true rfl⟩, sh361, ?_⟩
             refine C_passed hG hR hW (by omega) (by omega) (fun a f2 q2 => ?_)
             refine af_I0 rfl rfl (by decide) ?_
             try dsimp only
             try simp (disch := omega) only [m3_z, m3_f, m3_q, m3_o, u2_m3_z, u2_m3_f, u2_m3_q, u2_m3_o, pr_at, pr_off, u2_pr, u2_at, u2_off, uz_same, uz_ne, Int.reduceToNat]
             refine B_X10_ifPassed_66 ?_
             try dsimp only
             try simp (disch := omega) only [m3_z, m3_f, m3_q, m3_o, u2_m3_z, u2_m3_f, u2_m3_q, u2_m3_o, pr_at, pr_off, u2_pr, u2_at, u2_off, uz_same, uz_ne, Int.reduceToNat]
             first
               | exact absurd True.intro (by assumption)
               | (exfalso; omega)
               | exact hQ.1 (by omega)
               | exact hQ.2 (by omega) _ _ _)
      · refine B_X10_ifPassed_66 ?_
        try dsimp only
        try simp (disch := omega) only [m3_z, m3_f, m3_q, m3_o, u2_m3_z, u2_m3_f, u2_m3_q, u2_m3_o, pr_at, pr_off, u2_pr, u2_at, u2_off, uz_same, uz_ne, Int.reduceToNat]
        first
          | exact absurd True.intro (by assumption)
          | (exfalso; omega)
          | exact hQ.1 (by omega)
          | exact hQ.2 (by omega) _ _ _
  · refine ⟨⟨Nat.zero_le _, Nat.zero_le _, Nat.le_of_ble_eq_true rfl⟩, trivial, ?_⟩
    refine C_within hG (fun r13 hr13 => ?_)
    refine af_I0 rfl rfl (by decide) ?_
    try dsimp only
    try simp (disch := omega) only [m3_z, m3_f, m3_q, m3_o, u2_m3_z, u2_m3_f, u2_m3_q, u2_m3_o, pr_at, pr_off, u2_pr, u2_at, u2_off, uz_same, uz_ne, Int.reduceToNat]
    refine B_X10_ifPassed_16 ?_
    try dsimp only
    try simp (disch := omega) only [m3_z, m3_f, m3_q, m3_o, u2_m3_z, u2_m3_f, u2_m3_q, u2_m3_o, pr_at, pr_off, u2_pr, u2_at, u2_off, uz_same, uz_ne, Int.reduceToNat]
    refine ⟨fun c16_2 => ?_, fun c16_2 => ?_⟩
    · refine B_X10_ifPassed_30 ?_
      try dsimp only
      try simp (disch := omega) only [m3_z, m3_f, m3_q, m3_o, u2_m3_z, u2_m3_f, u2_m3_q, u2_m3_o, pr_at, pr_off, u2_pr, u2_at, u2_off, uz_same, uz_ne, Int.reduceToNat]
      refine B_X10_ifPassed_35 ?_
      try dsimp only
      try simp (disch := omega) only [m3_z, m3_f, m3_q, m3_o, u2_m3_z, u2_m3_f, u2_m3_q, u2_m3_o, pr_at, pr_off, u2_pr, u2_at, u2_off, uz_same, uz_ne, Int.reduceToNat]
      refine ⟨fun c38_4 => ?_, fun c38_4 => ?_⟩
      · refine B_X10_ifPassed_45 ?_
        try dsimp only
        try simp (disch := omega) only [m3_z, m3_f, m3_q, m3_o, u2_m3_z, u2_m3_f, u2_m3_q, u2_m3_o, pr_at, pr_off, u2_pr, u2_at, u2_off, uz_same, uz_ne, Int.reduceToNat]
        refine B_X10_ifPassed_46 ?_
        try dsimp only
        try simp (disch := omega) only [m3_z, m3_f, m3_q, m3_o, u2_m3_z, u2_m3_f, u2_m3_q, u2_m3_o, pr_at, pr_off, u2_pr, u2_at, u2_off, uz_same, uz_ne, Int.reduceToNat]
        refine ⟨sh361, ?_⟩
        try simp (disch := omega) only [m3_z, m3_f, m3_q, m3_o, u2_m3_z, u2_m3_f, u2_m3_q, u2_m3_o, pr_at, pr_off, u2_pr, u2_at, u2_off, uz_same, uz_ne, Int.reduceToNat]
        refine ⟨sh361, ?_⟩
        refine ⟨fun c53_6 => ?_, fun c53_6 => ?_⟩
        · refine B_X10_ifPassed_60 ?_
          try dsimp only
          try simp (disch := omega) only [m3_z, m3_f, m3_q, m3_o, u2_m3_z, u2_m3_f, u2_m3_q, u2_m3_o, pr_at, pr_off, u2_pr, u2_at, u2_off, uz_same, uz_ne, Int.reduceToNat]
          first
            | (exfalso; omega)
            | exact absurd True.intro (by assumption)
            | (refine ⟨⟨Nat.zero_le _, Nat.zero_le _, Nat.le_of_ble_eq_true rfl⟩, sh361, ?_⟩
               refine C_passed hG hR hW (by omega) (by omega) (fun a f2 q2 => ?_)
               refine af_I0 rfl rfl (by decide) ?_
               try dsimp only
               try simp (disch := omega) only [m3_z, m3_f, m3_q, m3_o, u2_m3_z, u2_m3_f, u2_m3_q, u2_m3_o, pr_at, pr_off, u2_pr, u2_at, u2_off, uz_same, uz_ne, Int.reduceToNat]
               refine B_X10_ifPassed_66 ?_
               try dsimp only
               try simp (disch := omega) only [m3_z, m3_f, m3_q, m3_o, u2_m3_z, u2_m3_f, u2_m3_q, u2_m3_o, pr_at, pr_off, u2_pr, u2_at, u2_off, uz_same, uz_ne, Int.reduceToNat]
               first
                 | exact absurd True.intro (by assumption)
                 | (exfalso; omega)
                 | exact hQ.1 (by omega)
                 | exact hQ.2 (by omega) _ _ _)
        · refine B_X10_ifPassed_66 ?_
          try dsimp only
          try simp (disch := omega) only [m3_z, m3_f, m3_q, m3_o, u2_m3_z, u2_m3_f, u2_m3_q, u2_m3_o, pr_at, pr_off, u2_pr, u2_at, u2_off, uz_same, uz_ne, Int.reduceToNat]
          first
            | exact absurd True.intro (by assumption)
            | (exfalso; omega)
            | exact hQ.1 (by omega)
            | exact hQ.2 (by omega) _ _ _
      · refine B_X10_ifPassed_46 ?_
        try dsimp only
        try simp (disch := omega) only [m3_z, m3_f, m3_q, m3_o, u2_m3_z, u2_m3_f, u2_m3_q, u2_m3_o, pr_at, pr_off, u2_pr, u2_at, u2_off, uz_same, uz_ne, Int.reduceToNat]
        refine ⟨sh361, ?_⟩
        try simp (disch := omega) only [m3_z, m3_f, m3_q, m3_o, u2_m3_z, u2_m3_f, u2_m3_q, u2_m3_o, pr_at, pr_off, u2_pr, u2_at, u2_off, uz_same, uz_ne, Int.reduceToNat]
        refine ⟨sh361, ?_⟩
        refine ⟨fun c53_5 => ?_, fun c53_5 => ?_⟩
        · refine B_X10_ifPassed_60 ?_
          try dsimp only
          try simp (disch := omega) only [m3_z, m3_f, m3_q, m3_o, u2_m3_z, u2_m3_f, u2_m3_q, u2_m3_o, pr_at, pr_off, u2_pr, u2_at, u2_off, uz_same, uz_ne, Int.reduceToNat]
          first
            | (exfalso; omega)
            | exact absurd True.intro (by assumption)
            | (refine ⟨⟨Nat.zero_le _, Nat.zero_le _, Nat.le_of_ble_eq_true rfl⟩, sh361, ?_⟩
               refine C_passed hG hR hW (by omega) (by omega) (fun a f2 q2 => ?_)
               refine af_I0 rfl rfl (by decide) ?_
               try dsimp only
               try simp (disch := omega) only [m3_z, m3_f, m3_q, m3_o, u2_m3_z, u2_m3_f, u2_m3_q, u2_m3_o, pr_at, pr_off, u2_pr, u2_at, u2_off, uz_same, uz_ne, Int.reduceToNat]
               refine B_X10_ifPassed_66 ?_
               try dsimp only
               try simp (disch := omega) only [m3_z, m3_f, m3_q, m3_o, u2_m3_z, u2_m3_f, u2_m3_q, u2_m3_o, pr_at, pr_off, u2_pr, u2_at, u2_off, uz_same, uz_ne, Int.reduceToNat]
               first
                 | exact absurd True.intro (by assumption)
                 | (exfalso; omega)
                 | exact hQ.1 (by omega)
                 | exact hQ.2 (by omega) _ _ _)
        · refine B_X10_ifPassed_66 ?_
          try dsimp only
          try simp (disch := omega) only [m3_z, m3_f, m3_q, m3_o, u2_m3_z, u2_m3_f, u2_m3_q, u2_m3_o, pr_at, pr_off, u2_pr, u2_at, u2_off, uz_same, uz_ne, Int.reduceToNat]
          first
            | exact absurd True.intro (by assumption)
            | (exfalso; omega)
            | exact hQ.1 (by omega)
            | exact hQ.2 (by omega) _ _ _
    · refine ⟨⟨Nat.zero_le _, Nat.zero_le _, Nat.le_of_ble_eq_true rfl⟩, trivial, ?_⟩
      refine C_within hG (fun r24 hr24 => ?_)
      refine af_I0 rfl rfl (by decide) ?_
      try dsimp only
      try simp (disch := omega) only [m3_z, m3_f, m3_q, m3_o, u2_m3_z, u2_m3_f, u2_m3_q, u2_m3_o, pr_at, pr_off, u2_pr, u2_at, u2_off, uz_same, uz_ne, Int.reduceToNat]
      refine B_X10_ifPassed_27 ?_
      try dsimp only
      try simp (disch := omega) only [m3_z, m3_f, m3_q, m3_o, u2_m3_z, u2_m3_f, u2_m3_q, u2_m3_o, pr_at, pr_off, u2_pr, u2_at, u2_off, uz_same, uz_ne, Int.reduceToNat]
      refine ⟨fun c27_3 => ?_, fun c27_3 => ?_⟩
      · refine B_X10_ifPassed_34 ?_
        try dsimp only
        try simp (disch := omega) only [m3_z, m3_f, m3_q, m3_o, u2_m3_z, u2_m3_f, u2_m3_q, u2_m3_o, pr_at, pr_off, u2_pr, u2_at, u2_off, uz_same, uz_ne, Int.reduceToNat]
        refine B_X10_ifPassed_35 ?_
        try dsimp only
        try simp (disch := omega) only [m3_z, m3_f, m3_q, m3_o, u2_m3_z, u2_m3_f, u2_m3_q, u2_m3_o, pr_at, pr_off, u2_pr, u2_at, u2_off, uz_same, uz_ne, Int.reduceToNat]
        refine ⟨fun c38_5 => ?_, fun c38_5 => ?_⟩
        · refine B_X10_ifPassed_45 ?_
          try dsimp only
          try simp (disch := omega) only [m3_z, m3_f, m3_q, m3_o, u2_m3_z, u2_m3_f, u2_m3_q, u2_m3_o, pr_at, pr_off, u2_pr, u2_at, u2_off, uz_same, uz_ne, Int.reduceToNat]
          refine B_X10_ifPassed_46 ?_
          try dsimp only
          try simp (disch := omega) only [m3_z, m3_f, m3_q, m3_o, u2_m3_z, u2_m3_f, u2_m3_q, u2_m3_o, pr_at, pr_off, u2_pr, u2_at, u2_off, uz_same, uz_ne, Int.reduceToNat]
          refine ⟨sh361, ?_⟩
          try simp (disch := omega) only [m3_z, m3_f, m3_q, m3_o, u2_m3_z, u2_m3_f, u2_m3_q, u2_m3_o, pr_at, pr_off, u2_pr, u2_at, u2_off, uz_same, uz_ne, Int.reduceToNat]
          refine ⟨sh361, ?_⟩
          refine ⟨fun c53_7 => ?_, fun c53_7 => ?_⟩
          · refine B_X10_ifPassed_60 ?_
            try dsimp only
            try simp (disch := omega) only [m3_z, m3_f, m3_q, m3_o, u2_m3_z, u2_m3_f, u2_m3_q, u2_m3_o, pr_at, pr_off, u2_pr, u2_at, u2_off, uz_same, uz_ne, Int.reduceToNat]
            first
              | (exfalso; omega)
              | exact absurd True.intro (by assumption)
              | (refine ⟨⟨Nat.zero_le _, Nat.zero_le _, Nat.le_of_ble_eq_true rfl⟩, sh361, ?_⟩
                 refine C_passed hG hR hW (by omega) (by omega) (fun a f2 q2 => ?_)
                 refine af_I0 rfl rfl (by decide) ?_
                 try dsimp only
                 try simp (disch := omega) only [m3_z, m3_f, m3_q, m3_o, u2_m3_z, u2_m3_f, u2_m3_q, u2_m3_o, pr_at, pr_off, u2_pr, u2_at, u2_off, uz_same, uz_ne, Int.reduceToNat]
                 refine B_X10_ifPassed_66 ?_
                 try dsimp only
                 try simp (disch := omega) only [m3_z, m3_f, m3_q, m3_o, u2_m3_z, u2_m3_f, u2_m3_q, u2_m3_o, pr_at, pr_off, u2_pr, u2_at, u2_off, uz_same, uz_ne, Int.reduceToNat]
                 first
                   | exact absurd True.intro (by assumption)
                   | (exfalso; omega)
                   | exact hQ.1 (by omega)
                   | exact hQ.2 (by omega) _ _ _)
          · refine B_X10_ifPassed_66 ?_
            try dsimp only
            try simp (disch := omega) only [m3_z, m3_f, m3_q, m3_o, u2_m3_z, u2_m3_f, u2_m3_q, u2_m3_o, pr_at, pr_off, u2_pr, u2_at, u2_off, uz_same, uz_ne, Int.reduceToNat]
            first
              | exact absurd True.intro (by assumption)
              | (exfalso; omega)
              | exact hQ.1 (by omega)
              | exact hQ.2 (by omega) _ _ _
        · refine B_X10_ifPassed_46 ?_
          try dsimp only
          try simp (disch := omega) only [m3_z, m3_f, m3_q, m3_o, u2_m3_z, u2_m3_f, u2_m3_q, u2_m3_o, pr_at, pr_off, u2_pr, u2_at, u2_off, uz_same, uz_ne, Int.reduceToNat]
          refine ⟨sh361, ?_⟩
          try simp (disch := omega) only [m3_z, m3_f, m3_q, m3_o, u2_m3_z, u2_m3_f, u2_m3_q, u2_m3_o, pr_at, pr_off, u2_pr, u2_at, u2_off, uz_same, uz_ne, Int.reduceToNat]
          refine ⟨sh361, ?_⟩
          refine ⟨fun c53_6 => ?_, fun c53_6 => ?_⟩
          · refine B_X10_ifPassed_60 ?_
            try dsimp only
            try simp (disch := omega) only [m3_z, m3_f, m3_q, m3_o, u2_m3_z, u2_m3_f, u2_m3_q, u2_m3_o, pr_at, pr_off, u2_pr, u2_at, u2_off, uz_same, uz_ne, Int.reduceToNat]
            first
              | (exfalso; omega)
              | exact absurd True.intro (by assumption)
              | (refine ⟨⟨Nat.zero_le _, Nat.zero_le _, Nat.le_of_ble_eq_true rfl⟩, sh361, ?_⟩
                 refine C_passed hG hR hW (by omega) (by omega) (fun a f2 q2 => ?_)
                 refine af_I0 rfl rfl (by decide) ?_
                 try dsimp only
                 try simp (disch := omega) only [m3_z, m3_f, m3_q, m3_o, u2_m3_z, u2_m3_f, u2_m3_q, u2_m3_o, pr_at, pr_off, u2_pr, u2_at, u2_off, uz_same, uz_ne, Int.reduceToNat]
                 refine B_X10_ifPassed_66 ?_
                 try dsimp only
                 try simp (disch := omega) only [m3_z, m3_f, m3_q, m3_o, u2_m3_z, u2_m3_f, u2_m3_q, u2_m3_o, pr_at, pr_off, u2_pr, u2_at, u2_off, uz_same, uz_ne, Int.reduceToNat]
                 first
                   | exact absurd True.intro (by assumption)
                   | (exfalso; omega)
                   | exact hQ.1 (by omega)
                   | exact hQ.2 (by omega) _ _ _)
          · refine B_X10_ifPassed_66 ?_
            try dsimp only
            try simp (disch := omega) only [m3_z, m3_f, m3_q, m3_o, u2_m3_z, u2_m3_f, u2_m3_q, u2_m3_o, pr_at, pr_off, u2_pr, u2_at, u2_off, uz_same, uz_ne, Int.reduceToNat]
            first
              | exact absurd True.intro (by assumption)
              | (exfalso; omega)
              | exact hQ.1 (by omega)
              | exact hQ.2 (by omega) _ _ _
      · refine B_X10_ifPassed_30 ?_
        try dsimp only
        try simp (disch := omega) only [m3_z, m3_f, m3_q, m3_o, u2_m3_z, u2_m3_f, u2_m3_q, u2_m3_o, pr_at, pr_off, u2_pr, u2_at, u2_off, uz_same, uz_ne, Int.reduceToNat]
        refine B_X10_ifPassed_35 ?_
        try dsimp only
        try simp (disch := omega) only [m3_z, m3_f, m3_q, m3_o, u2_m3_z, u2_m3_f, u2_m3_q, u2_m3_o, pr_at, pr_off, u2_pr, u2_at, u2_off, uz_same, uz_ne, Int.reduceToNat]
        refine ⟨fun c38_5 => ?_, fun c38_5 => ?_⟩
        · refine B_X10_ifPassed_45 ?_
          try dsimp only
          try simp (disch := omega) only [m3_z, m3_f, m3_q, m3_o, u2_m3_z, u2_m3_f, u2_m3_q, u2_m3_o, pr_at, pr_off, u2_pr, u2_at, u2_off, uz_same, uz_ne, Int.reduceToNat]
          refine B_X10_ifPassed_46 ?_
          try dsimp only
          try simp (disch := omega) only [m3_z, m3_f, m3_q, m3_o, u2_m3_z, u2_m3_f, u2_m3_q, u2_m3_o, pr_at, pr_off, u2_pr, u2_at, u2_off, uz_same, uz_ne, Int.reduceToNat]
          refine ⟨sh361, ?_⟩
          try simp (disch := omega) only [m3_z, m3_f, m3_q, m3_o, u2_m3_z, u2_m3_f, u2_m3_q, u2_m3_o, pr_at, pr_off, u2_pr, u2_at, u2_off, uz_same, uz_ne, Int.reduceToNat]
          refine ⟨sh361, ?_⟩
          refine ⟨fun c53_7 => ?_, fun c53_7 => ?_⟩
          · refine B_X10_ifPassed_60 ?_
            try dsimp only
            try simp (disch := omega) only [m3_z, m3_f, m3_q, m3_o, u2_m3_z, u2_m3_f, u2_m3_q, u2_m3_o, pr_at, pr_off, u2_pr, u2_at, u2_off, uz_same, uz_ne, Int.reduceToNat]
            first
              | (exfalso; omega)
              | exact absurd True.intro (by assumption)
              | (refine ⟨⟨Nat.zero_le _, Nat.zero_le _, Nat.le_of_ble_eq_true rfl⟩, sh361, ?_⟩
                 refine C_passed hG hR hW (by omega) (by omega) (fun a f2 q2 => ?_)
                 refine af_I0 rfl rfl (by decide) ?_
                 try dsimp only
                 try simp (disch := omega) only [m3_z, m3_f, m3_q, m3_o, u2_m3_z, u2_m3_f, u2_m3_q, u2_m3_o, pr_at, pr_off, u2_pr, u2_at, u2_off, uz_same, uz_ne, Int.reduceToNat]
                 refine B_X10_ifPassed_66 ?_
                 try dsimp only
                 try simp (disch := omega) only [m3_z, m3_f, m3_q, m3_o, u2_m3_z, u2_m3_f, u2_m3_q, u2_m3_o, pr_at, pr_off, u2_pr, u2_at, u2_off, uz_same, uz_ne, Int.reduceToNat]
                 first
                   | exact absurd True.intro (by assumption)
                   | (exfalso; omega)
                   | exact hQ.1 (by omega)
                   | exact hQ.2 (by omega) _ _ _)
          · refine B_X10_ifPassed_66 ?_
            try dsimp only
            try simp (disch := omega) only [m3_z, m3_f, m3_q, m3_o, u2_m3_z, u2_m3_f, u2_m3_q, u2_m3_o, pr_at, pr_off, u2_pr, u2_at, u2_off, uz_same, uz_ne, Int.reduceToNat]
            first
              | exact absurd True.intro (by assumption)
              | (exfalso; omega)
              | exact hQ.1 (by omega)
              | exact hQ.2 (by omega) _ _ _
        · refine B_X10_ifPassed_46 ?_
          try dsimp only
          try simp (disch := omega) only [m3_z, m3_f, m3_q, m3_o, u2_m3_z, u2_m3_f, u2_m3_q, u2_m3_o, pr_at, pr_off, u2_pr, u2_at, u2_off, uz_same, uz_ne, Int.reduceToNat]
          refine ⟨sh361, ?_⟩
          try simp (disch := omega) only [m3_z, m3_f, m3_q, m3_o, u2_m3_z, u2_m3_f, u2_m3_q, u2_m3_o, pr_at, pr_off, u2_pr, u2_at, u2_off, uz_same, uz_ne, Int.reduceToNat]
          refine ⟨sh361, ?_⟩
          refine ⟨fun c53_6 => ?_, fun c53_6 => ?_⟩
          · refine B_X10_ifPassed_60 ?_
            try dsimp only
            try simp (disch := omega) only [m3_z, m3_f, m3_q, m3_o, u2_m3_z, u2_m3_f, u2_m3_q, u2_m3_o, pr_at, pr_off, u2_pr, u2_at, u2_off, uz_same, uz_ne, Int.reduceToNat]
            first
              | (exfalso; omega)
              | exact absurd True.intro (by assumption)
              | (refine ⟨⟨Nat.zero_le _, Nat.zero_le _, Nat.le_of_ble_eq_true rfl⟩, sh361, ?_⟩
                 refine C_passed hG hR hW (by omega) (by omega) (fun a f2 q2 => ?_)
                 refine af_I0 rfl rfl (by decide) ?_
                 try dsimp only
                 try simp (disch := omega) only [m3_z, m3_f, m3_q, m3_o, u2_m3_z, u2_m3_f, u2_m3_q, u2_m3_o, pr_at, pr_off, u2_pr, u2_at, u2_off, uz_same, uz_ne, Int.reduceToNat]
                 refine B_X10_ifPassed_66 ?_
                 try dsimp only
                 try simp (disch := omega) only [m3_z, m3_f, m3_q, m3_o, u2_m3_z, u2_m3_f, u2_m3_q, u2_m3_o, pr_at, pr_off, u2_pr, u2_at, u2_off, uz_same, uz_ne, Int.reduceToNat]
                 first
                   | exact absurd True.intro (by assumption)
                   | (exfalso; omega)
                   | exact hQ.1 (by omega)
                   | exact hQ.2 (by omega) _ _ _)
          · refine B_X10_ifPassed_66 ?_
            try dsimp only
            try simp (disch := omega) only [m3_z, m3_f, m3_q, m3_o, u2_m3_z, u2_m3_f, u2_m3_q, u2_m3_o, pr_at, pr_off, u2_pr, u2_at, u2_off, uz_same, uz_ne, Int.reduceToNat]
            first
              | exact absurd True.intro (by assumption)
              | (exfalso; omega)
              | exact hQ.1 (by omega)
              | exact hQ.2 (by omega) _ _ _
theorem L_arrivesIn {G : amG} {I : Nat → Nat → Int} {R : Nat → Nat → Option Nat} {L : Nat → Nat → Int64} {x : Nat} {Q : amR → amH → Prop} (hG : amG0 G) (hR : RM R) {z : Row} {k : Int} (hW : WF z) (hm : z 316 ≤ 1000) (hk : 0 ≤ k ∧ k < z 98) (hK : ∀ (j : Int) (f q : Row), (0 ≤ j ∧ j ≤ 61) → (if 60 < j then -1 else j) = arF z k.toNat 61 0 → X G mX10_arrivesIn Q 56 [some (aR (some 361)), some (aI k), some (aI j)] [] (m3 I (passN z j.toNat) f q, R, L, SH, x, 0, 0)) :
    ∀ (n : Nat) (j : Int) (f q : Row), (0 ≤ j ∧ j ≤ 61 ∧ 61 - j < n) → arF z k.toNat (61 - j.toNat) j.toNat = arF z k.toNat 61 0 → X G mX10_arrivesIn Q 32 [some (aR (some 361)), some (aI k), some (aI j)] [] (m3 I (passN z j.toNat) f q, R, L, SH, x, 0, 0) := by
  intro n
  induction n with
  | zero =>
    intros
    exfalso; omega
  | succ n ih =>
    intro j f q h1 ha
    have hz := passN_inv hW j.toNat (by omega)
    have hs := passN_s z j.toNat
    have h0C := hW.2.2.1.1
    have hn2 := hW.1.2.1.2
    have hg : j ≤ 60 → arF z k.toNat (61 - j.toNat) j.toNat = if atG (passN z j.toNat) k.toNat = true then (j.toNat : Int) else arF z k.toNat (60 - j.toNat) (j.toNat + 1) := fun q => by
      rw [show 61 - j.toNat = (60 - j.toNat) + 1 by omega, arF_s]
    refine B_X10_arrivesIn_32 ?_
    try dsimp only
    try simp (disch := omega) only [m3_z, m3_f, m3_q, m3_o, u2_m3_z, u2_m3_f, u2_m3_q, u2_m3_o, pr_at, pr_off, u2_pr, u2_at, u2_off, uz_same, uz_ne, Int.reduceToNat]
    refine ⟨fun c35_0 => ?_, fun c35_0 => ?_⟩
    · refine hK j f q (by omega) ?_
      rw [← ha]
      first
        | (rw [if_pos (by omega), show 61 - j.toNat = 0 by omega]; rfl)
        | (rw [hg, if_neg (by omega), if_pos (show atG (passN z j.toNat) k.toNat = true from decide_eq_true (by omega))]; omega)
    · refine ⟨⟨Nat.zero_le _, Nat.zero_le _, Nat.le_of_ble_eq_true rfl⟩, sh361, ?_⟩
      refine C_isAtGoal hG hR (I := m3 I (passN z j.toNat) f q) (by omega) (fun r hr => ?_)
      have hr : ((tf (passN z j.toNat) k.toNat 4 ≠ 2 ∧ tf (passN z j.toNat) k.toNat 1 = tf (passN z j.toNat) k.toNat 3) ∧ r = 1) ∨ (¬ (tf (passN z j.toNat) k.toNat 4 ≠ 2 ∧ tf (passN z j.toNat) k.toNat 1 = tf (passN z j.toNat) k.toNat 3) ∧ r = 0) := hr
      have hg := hg (by omega)
      refine af_I0 rfl rfl (by decide) ?_
      try dsimp only
      try simp (disch := omega) only [m3_z, m3_f, m3_q, m3_o, u2_m3_z, u2_m3_f, u2_m3_q, u2_m3_o, pr_at, pr_off, u2_pr, u2_at, u2_off, uz_same, uz_ne, Int.reduceToNat]
      refine B_X10_arrivesIn_43 ?_
      try dsimp only
      try simp (disch := omega) only [m3_z, m3_f, m3_q, m3_o, u2_m3_z, u2_m3_f, u2_m3_q, u2_m3_o, pr_at, pr_off, u2_pr, u2_at, u2_off, uz_same, uz_ne, Int.reduceToNat]
      refine ⟨fun c43_1 => ?_, fun c43_1 => ?_⟩
      · refine hK j f q (by omega) ?_
        rw [← ha]
        first
          | (rw [if_pos (by omega), show 61 - j.toNat = 0 by omega]; rfl)
          | (rw [hg, if_neg (by omega), if_pos (show atG (passN z j.toNat) k.toNat = true from decide_eq_true (by omega))]; omega)
      · refine ⟨⟨Nat.zero_le _, Nat.zero_le _, Nat.le_of_ble_eq_true rfl⟩, sh361, ?_⟩
        refine C_passOne hG hR hz.1 (by omega) (fun f2 q2 => ?_)
        refine af_N0 rfl rfl rfl ?_
        try dsimp only
        try simp (disch := omega) only [m3_z, m3_f, m3_q, m3_o, u2_m3_z, u2_m3_f, u2_m3_q, u2_m3_o, pr_at, pr_off, u2_pr, u2_at, u2_off, uz_same, uz_ne, Int.reduceToNat]
        refine B_X10_arrivesIn_50 ?_
        try dsimp only
        try simp (disch := omega) only [m3_z, m3_f, m3_q, m3_o, u2_m3_z, u2_m3_f, u2_m3_q, u2_m3_o, pr_at, pr_off, u2_pr, u2_at, u2_off, uz_same, uz_ne, Int.reduceToNat]
        refine ⟨by (refine ⟨?_, ?_⟩ <;> omega), ?_⟩
        rw [if_neg (fun q => by have q := of_decide_eq_true q; omega)] at hg
        have e := ih (j + 1) f2 q2 (by omega) (by
          rw [show (j + 1).toNat = j.toNat + 1 by omega, ← ha, hg]
          congr 1
          omega)
        rw [show (j + 1).toNat = j.toNat + 1 by omega, hs] at e
        exact e
theorem C_arrivesIn {G : amG} {I : Nat → Nat → Int} {z f q : Row} {R : Nat → Nat → Option Nat} {L : Nat → Nat → Int64} {x c t : Nat} {Q : amR → amH → Prop} (hG : amG0 G) (hR : RM R) {k : Int} (hW : WF z) (hm : z 316 ≤ 1000) (hQ : (¬ (0 ≤ k ∧ k < z 98) → Q (Sum.inl (some (aI 0))) (m3 (u2 I 361 0 1) z f q, R, L, SH, x, 0, 0)) ∧ ((0 ≤ k ∧ k < z 98) → ∀ a f q : Row, Q (Sum.inl (some (aI (arF z k.toNat 61 0)))) (m3 (pr (u2 I 361 0 0) 367 a) z f q, R, L, SH, x, 0, 0))) : CT G sX10_arrivesIn [aR (some 361), aI k] (m3 I z f q, R, L, SH, x, c, t) Q := by
  refine CT_of ok_X10_arrivesIn hG (Nat.le_of_ble_eq_true rfl) ?_
  show X G mX10_arrivesIn Q 0 _ [] (m3 I z f q, R, L, SH, x, 0, 0)
  refine B_X10_arrivesIn_0 ?_
  try dsimp only
  try simp (disch := omega) only [m3_z, m3_f, m3_q, m3_o, u2_m3_z, u2_m3_f, u2_m3_q, u2_m3_o, pr_at, pr_off, u2_pr, u2_at, u2_off, uz_same, uz_ne, Int.reduceToNat]
  refine ⟨⟨Nat.zero_le _, Nat.zero_le _, Nat.le_of_ble_eq_true rfl⟩, sh361, ?_⟩
  refine C_isTroop hG hR (I := m3 I z f q) (by have := hW.1.2.1; unfold wfN at this; exact this) (fun r hr => ?_)
  have hr : ((0 ≤ k ∧ k < z 98) ∧ r = 1) ∨ (¬ (0 ≤ k ∧ k < z 98) ∧ r = 0) := hr
  refine af_I0 rfl rfl (by decide) ?_
  try dsimp only
  try simp (disch := omega) only [m3_z, m3_f, m3_q, m3_o, u2_m3_z, u2_m3_f, u2_m3_q, u2_m3_o, pr_at, pr_off, u2_pr, u2_at, u2_off, uz_same, uz_ne, Int.reduceToNat]
  refine B_X10_arrivesIn_6 ?_
  try dsimp only
  try simp (disch := omega) only [m3_z, m3_f, m3_q, m3_o, u2_m3_z, u2_m3_f, u2_m3_q, u2_m3_o, pr_at, pr_off, u2_pr, u2_at, u2_off, uz_same, uz_ne, Int.reduceToNat]
  refine ⟨fun c6_1 => ?_, fun c6_1 => ?_⟩
  · refine B_X10_arrivesIn_13 ?_
    try dsimp only
    try simp (disch := omega) only [m3_z, m3_f, m3_q, m3_o, u2_m3_z, u2_m3_f, u2_m3_q, u2_m3_o, pr_at, pr_off, u2_pr, u2_at, u2_off, uz_same, uz_ne, Int.reduceToNat]
    refine B_X10_arrivesIn_14 ?_
    try dsimp only
    try simp (disch := omega) only [m3_z, m3_f, m3_q, m3_o, u2_m3_z, u2_m3_f, u2_m3_q, u2_m3_o, pr_at, pr_off, u2_pr, u2_at, u2_off, uz_same, uz_ne, Int.reduceToNat]
    refine ⟨sh361, ?_⟩
    try simp (disch := omega) only [m3_z, m3_f, m3_q, m3_o, u2_m3_z, u2_m3_f, u2_m3_q, u2_m3_o, pr_at, pr_off, u2_pr, u2_at, u2_off, uz_same, uz_ne, Int.reduceToNat]
    refine ⟨sh361, ?_⟩
    refine ⟨fun c21_3 => ?_, fun c21_3 => ?_⟩
    · refine B_X10_arrivesIn_26 ?_
      try dsimp only
      try simp (disch := omega) only [m3_z, m3_f, m3_q, m3_o, u2_m3_z, u2_m3_f, u2_m3_q, u2_m3_o, pr_at, pr_off, u2_pr, u2_at, u2_off, uz_same, uz_ne, Int.reduceToNat]
      first
        | (exfalso; omega)
        | exact absurd True.intro (by assumption)
        | (refine ⟨⟨Nat.zero_le _, Nat.zero_le _, Nat.le_of_ble_eq_true rfl⟩, sh361, ?_⟩
           refine C_keepAside hG hR ?_
           refine af_N0 rfl rfl rfl ?_
           try dsimp only
           try simp (disch := omega) only [m3_z, m3_f, m3_q, m3_o, u2_m3_z, u2_m3_f, u2_m3_q, u2_m3_o, pr_at, pr_off, u2_pr, u2_at, u2_off, uz_same, uz_ne, Int.reduceToNat]
           refine B_X10_arrivesIn_30 ?_
           try dsimp only
           try simp (disch := omega) only [m3_z, m3_f, m3_q, m3_o, u2_m3_z, u2_m3_f, u2_m3_q, u2_m3_o, pr_at, pr_off, u2_pr, u2_at, u2_off, uz_same, uz_ne, Int.reduceToNat]
           first
             | (exfalso; omega)
             | (refine L_arrivesIn hG hR hW hm (by omega) (fun j f2 q2 h1 hj => ?_) 62 0 _ _ (by omega) rfl
                have hz := passN_inv hW j.toNat (by omega)
                refine B_X10_arrivesIn_56 ?_
                try dsimp only
                try simp (disch := omega) only [m3_z, m3_f, m3_q, m3_o, u2_m3_z, u2_m3_f, u2_m3_q, u2_m3_o, pr_at, pr_off, u2_pr, u2_at, u2_off, uz_same, uz_ne, Int.reduceToNat]
                refine ⟨⟨Nat.zero_le _, Nat.zero_le _, Nat.le_of_ble_eq_true rfl⟩, sh361, ?_⟩
                refine C_takeBack hG hR ?_
                rw [pr_at, back (fun i hi => hz.2.2.2.2.2 i hi)]
                refine af_N0 rfl rfl rfl ?_
                try dsimp only
                try simp (disch := omega) only [m3_z, m3_f, m3_q, m3_o, u2_m3_z, u2_m3_f, u2_m3_q, u2_m3_o, pr_at, pr_off, u2_pr, u2_at, u2_off, uz_same, uz_ne, Int.reduceToNat]
                refine B_X10_arrivesIn_60 ?_
                try dsimp only
                try simp (disch := omega) only [m3_z, m3_f, m3_q, m3_o, u2_m3_z, u2_m3_f, u2_m3_q, u2_m3_o, pr_at, pr_off, u2_pr, u2_at, u2_off, uz_same, uz_ne, Int.reduceToNat]
                refine ⟨fun c63_1 => ?_, fun c63_1 => ?_⟩
                · refine B_X10_arrivesIn_70 ?_
                  try dsimp only
                  try simp (disch := omega) only [m3_z, m3_f, m3_q, m3_o, u2_m3_z, u2_m3_f, u2_m3_q, u2_m3_o, pr_at, pr_off, u2_pr, u2_at, u2_off, uz_same, uz_ne, Int.reduceToNat]
                  refine B_X10_arrivesIn_71 ?_
                  try dsimp only
                  try simp (disch := omega) only [m3_z, m3_f, m3_q, m3_o, u2_m3_z, u2_m3_f, u2_m3_q, u2_m3_o, pr_at, pr_off, u2_pr, u2_at, u2_off, uz_same, uz_ne, Int.reduceToNat]
                  first
                    | (rw [if_pos (by omega)] at hj; rw [hj]; exact hQ.2 (by omega) _ _ _)
                    | (rw [if_neg (by omega)] at hj; rw [hj]; exact hQ.2 (by omega) _ _ _)
                · refine B_X10_arrivesIn_71 ?_
                  try dsimp only
                  try simp (disch := omega) only [m3_z, m3_f, m3_q, m3_o, u2_m3_z, u2_m3_f, u2_m3_q, u2_m3_o, pr_at, pr_off, u2_pr, u2_at, u2_off, uz_same, uz_ne, Int.reduceToNat]
                  first
                    | (rw [if_pos (by omega)] at hj; rw [hj]; exact hQ.2 (by omega) _ _ _)
                    | (rw [if_neg (by omega)] at hj; rw [hj]; exact hQ.2 (by omega) _ _ _)))
    · first
        | exact absurd True.intro (by assumption)
        | (exfalso; omega)
        | exact hQ.1 (by omega)
  · refine B_X10_arrivesIn_14 ?_
    try dsimp only
    try simp (disch := omega) only [m3_z, m3_f, m3_q, m3_o, u2_m3_z, u2_m3_f, u2_m3_q, u2_m3_o, pr_at, pr_off, u2_pr, u2_at, u2_off, uz_same, uz_ne, Int.reduceToNat]
    refine ⟨sh361, ?_⟩
    try simp (disch := omega) only [m3_z, m3_f, m3_q, m3_o, u2_m3_z, u2_m3_f, u2_m3_q, u2_m3_o, pr_at, pr_off, u2_pr, u2_at, u2_off, uz_same, uz_ne, Int.reduceToNat]
    refine ⟨sh361, ?_⟩
    refine ⟨fun c21_2 => ?_, fun c21_2 => ?_⟩
    · refine B_X10_arrivesIn_26 ?_
      try dsimp only
      try simp (disch := omega) only [m3_z, m3_f, m3_q, m3_o, u2_m3_z, u2_m3_f, u2_m3_q, u2_m3_o, pr_at, pr_off, u2_pr, u2_at, u2_off, uz_same, uz_ne, Int.reduceToNat]
      first
        | (exfalso; omega)
        | exact absurd True.intro (by assumption)
        | (refine ⟨⟨Nat.zero_le _, Nat.zero_le _, Nat.le_of_ble_eq_true rfl⟩, sh361, ?_⟩
           refine C_keepAside hG hR ?_
           refine af_N0 rfl rfl rfl ?_
           try dsimp only
           try simp (disch := omega) only [m3_z, m3_f, m3_q, m3_o, u2_m3_z, u2_m3_f, u2_m3_q, u2_m3_o, pr_at, pr_off, u2_pr, u2_at, u2_off, uz_same, uz_ne, Int.reduceToNat]
           refine B_X10_arrivesIn_30 ?_
           try dsimp only
           try simp (disch := omega) only [m3_z, m3_f, m3_q, m3_o, u2_m3_z, u2_m3_f, u2_m3_q, u2_m3_o, pr_at, pr_off, u2_pr, u2_at, u2_off, uz_same, uz_ne, Int.reduceToNat]
           first
             | (exfalso; omega)
             | (refine L_arrivesIn hG hR hW hm (by omega) (fun j f2 q2 h1 hj => ?_) 62 0 _ _ (by omega) rfl
                have hz := passN_inv hW j.toNat (by omega)
                refine B_X10_arrivesIn_56 ?_
                try dsimp only
                try simp (disch := omega) only [m3_z, m3_f, m3_q, m3_o, u2_m3_z, u2_m3_f, u2_m3_q, u2_m3_o, pr_at, pr_off, u2_pr, u2_at, u2_off, uz_same, uz_ne, Int.reduceToNat]
                refine ⟨⟨Nat.zero_le _, Nat.zero_le _, Nat.le_of_ble_eq_true rfl⟩, sh361, ?_⟩
                refine C_takeBack hG hR ?_
                rw [pr_at, back (fun i hi => hz.2.2.2.2.2 i hi)]
                refine af_N0 rfl rfl rfl ?_
                try dsimp only
                try simp (disch := omega) only [m3_z, m3_f, m3_q, m3_o, u2_m3_z, u2_m3_f, u2_m3_q, u2_m3_o, pr_at, pr_off, u2_pr, u2_at, u2_off, uz_same, uz_ne, Int.reduceToNat]
                refine B_X10_arrivesIn_60 ?_
                try dsimp only
                try simp (disch := omega) only [m3_z, m3_f, m3_q, m3_o, u2_m3_z, u2_m3_f, u2_m3_q, u2_m3_o, pr_at, pr_off, u2_pr, u2_at, u2_off, uz_same, uz_ne, Int.reduceToNat]
                refine ⟨fun c63_1 => ?_, fun c63_1 => ?_⟩
                · refine B_X10_arrivesIn_70 ?_
                  try dsimp only
                  try simp (disch := omega) only [m3_z, m3_f, m3_q, m3_o, u2_m3_z, u2_m3_f, u2_m3_q, u2_m3_o, pr_at, pr_off, u2_pr, u2_at, u2_off, uz_same, uz_ne, Int.reduceToNat]
                  refine B_X10_arrivesIn_71 ?_
                  try dsimp only
                  try simp (disch := omega) only [m3_z, m3_f, m3_q, m3_o, u2_m3_z, u2_m3_f, u2_m3_q, u2_m3_o, pr_at, pr_off, u2_pr, u2_at, u2_off, uz_same, uz_ne, Int.reduceToNat]
                  first
                    | (rw [if_pos (by omega)] at hj; rw [hj]; exact hQ.2 (by omega) _ _ _)
                    | (rw [if_neg (by omega)] at hj; rw [hj]; exact hQ.2 (by omega) _ _ _)
                · refine B_X10_arrivesIn_71 ?_
                  try dsimp only
                  try simp (disch := omega) only [m3_z, m3_f, m3_q, m3_o, u2_m3_z, u2_m3_f, u2_m3_q, u2_m3_o, pr_at, pr_off, u2_pr, u2_at, u2_off, uz_same, uz_ne, Int.reduceToNat]
                  first
                    | (rw [if_pos (by omega)] at hj; rw [hj]; exact hQ.2 (by omega) _ _ _)
                    | (rw [if_neg (by omega)] at hj; rw [hj]; exact hQ.2 (by omega) _ _ _)))
    · first
        | exact absurd True.intro (by assumption)
        | (exfalso; omega)
        | exact hQ.1 (by omega)
