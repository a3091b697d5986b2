/-! ===== the model: what is done ===== -/
def svH (I : Nat → Nat → Int) (z : Row) : Nat → Nat → Int := u2 (pr I 363 (svS (I 363) z (I 361 2))) 361 2 (svN (I 361 2))
theorem svH_off (I : Nat → Nat → Int) (z : Row) {a : Nat} (h : a ≠ 361 ∧ a ≠ 363) : svH I z a = I a := by
  unfold svH
  rw [u2_off _ _ _ h.1, pr_off _ _ h.2]
theorem svH_f (I : Nat → Nat → Int) (z : Row) {k : Nat} (h : k ≠ 2) : svH I z 361 k = I 361 k := by
  unfold svH
  rw [u2_at, uz_ne _ _ h, pr_off _ _ (by decide)]
theorem svH_n (I : Nat → Nat → Int) (z : Row) : svH I z 361 2 = svN (I 361 2) := by
  unfold svH
  rw [u2_at, uz_same]
theorem svH_s (I : Nat → Nat → Int) (z : Row) : svH I z 363 = svS (I 363) z (I 361 2) := by
  unfold svH
  rw [u2_off _ _ _ (by decide), pr_at]
theorem C_saveH {G : amG} {I : Nat → Nat → Int} {z f q : Row} {R : Nat → Nat → Option Nat} {L : Nat → Nat → Int64} {x c t : Nat} {Q : amR → amH → Prop} (hG : amG0 G) (hR : RM R) (hn : 0 ≤ I 361 2 ∧ I 361 2 ≤ 5) (hQ : Q (Sum.inl none) (m3 (svH I z) z f q, R, L, SH, x, 0, 0)) : CT G sX10_save [aR (some 361)] (m3 I z f q, R, L, SH, x, c, t) Q := C_save hG hR hn hQ
/-- a block of the field gets a height; how many cells had another one -/
def shZ (z : Row) (a b h : Int) : Nat → Row × Int
  | 0 => (z, 0)
  | n + 1 => if a % 12 ≤ (a + n) % 12 ∧ (a + n) % 12 ≤ b % 12 then (uz (shZ z a b h n).1 (a + n).toNat h, (shZ z a b h n).2 + (if (shZ z a b h n).1 (a + n).toNat = h then 0 else 1)) else shZ z a b h n
theorem shZ_s (z : Row) (a b h : Int) (n : Nat) : shZ z a b h (n + 1) = if a % 12 ≤ (a + n) % 12 ∧ (a + n) % 12 ≤ b % 12 then (uz (shZ z a b h n).1 (a + n).toNat h, (shZ z a b h n).2 + (if (shZ z a b h n).1 (a + n).toNat = h then 0 else 1)) else shZ z a b h n := rfl
theorem shZ_b (z : Row) (a b h : Int) : ∀ n : Nat, 0 ≤ (shZ z a b h n).2 ∧ (shZ z a b h n).2 ≤ n := by
  intro n
  induction n with
  | zero =>
    show 0 ≤ (0 : Int) ∧ (0 : Int) ≤ ((0 : Nat) : Int)
    omega
  | succ n ih =>
    rw [shZ_s]
    split
    · show 0 ≤ (shZ z a b h n).2 + (if _ then 0 else 1) ∧ (shZ z a b h n).2 + (if _ then 0 else 1) ≤ ((n + 1 : Nat) : Int)
      split <;> omega
    · omega
/-- a new troop's numbers -/
def clZ (z : Row) (n : Nat) : Nat → Row
  | 0 => z
  | k + 1 => uz (clZ z n k) (99 + 8 * n + k) 0
theorem clZ_s (z : Row) (n k : Nat) : clZ z n (k + 1) = uz (clZ z n k) (99 + 8 * n + k) 0 := rfl
def adZ (z : Row) (n : Nat) (s c v : Int) : Row := uz (uz (uz (uz (uz (uz (clZ z n 8) (99 + 8 * n + 0) s) (99 + 8 * n + 1) c) (99 + 8 * n + 2) v) (99 + 8 * n + 3) c) (99 + 8 * n + 5) v) 98 (z 98 + 1)
theorem clZ_98 (z : Row) (n : Nat) : ∀ k : Nat, clZ z n k 98 = z 98 := by
  intro k
  induction k with
  | zero => rfl
  | succ k ih => rw [clZ_s, uz_ne _ _ (by omega), ih]
theorem L_pass {G : amG} {I : Nat → Nat → Int} {R : Nat → Nat → Option Nat} {L : Nat → Nat → Int64} {x : Nat} {Q : amR → amH → Prop} (hG : amG0 G) (hR : RM R) {z : Row} {u w : Int} (hW : WF z) (hu : 0 ≤ u ∧ z 316 + u ≤ 1061) (hK : ∀ f q : Row, X G mX10_pass Q 87 [some (aR (some 361)), some (aI u), some (aI w), some (aI u)] [] (m3 I (passN z u.toNat) f q, R, L, SH, x, 0, 0)) :
    ∀ (n : Nat) (j : Int) (f q : Row), (0 ≤ j ∧ j ≤ u ∧ u - j < n) → X G mX10_pass Q 72 [some (aR (some 361)), some (aI u), some (aI w), some (aI j)] [] (m3 I (passN z j.toNat) f q, R, L, SH, x, 0, 0) := by
  intro n
  induction n with
  | zero =>
    intros
    exfalso; omega
  | succ n ih =>
    intro j f q h1
    have hz := passN_inv hW j.toNat (by omega)
    have hs := passN_s z j.toNat
    have h0C := hW.2.2.1.1
    refine B_X10_pass_72 ?_
    try dsimp only
    try simp (disch := omega) only [m3_z, m3_f, m3_q, m3_o, u2_m3_z, u2_m3_f, u2_m3_q, u2_m3_o, pr_at, pr_off, u2_pr, u2_at, u2_off, uz_same, uz_ne, Int.reduceToNat]
    refine ⟨fun c74_0 => ?_, fun c74_0 => ?_⟩
    · have e : j = u := by omega
      rw [e]
      exact hK f q
    · refine ⟨⟨Nat.zero_le _, Nat.zero_le _, Nat.le_of_ble_eq_true rfl⟩, sh361, ?_⟩
      refine C_passOne hG hR hz.1 (by omega) (fun f2 q2 => ?_)
      refine af_N0 rfl rfl rfl ?_
      try dsimp only
      try simp (disch := omega) only [m3_z, m3_f, m3_q, m3_o, u2_m3_z, u2_m3_f, u2_m3_q, u2_m3_o, pr_at, pr_off, u2_pr, u2_at, u2_off, uz_same, uz_ne, Int.reduceToNat]
      refine B_X10_pass_81 ?_
      try dsimp only
      try simp (disch := omega) only [m3_z, m3_f, m3_q, m3_o, u2_m3_z, u2_m3_f, u2_m3_q, u2_m3_o, pr_at, pr_off, u2_pr, u2_at, u2_off, uz_same, uz_ne, Int.reduceToNat]
      refine ⟨by (refine ⟨?_, ?_⟩ <;> omega), ?_⟩
      have e := ih (j + 1) f2 q2 (by omega)
      rw [show (j + 1).toNat = j.toNat + 1 by omega, hs] at e
      exact e
theorem C_pass {G : amG} {I : Nat → Nat → Int} {z f q : Row} {R : Nat → Nat → Option Nat} {L : Nat → Nat → Int64} {x c t : Nat} {Q : amR → amH → Prop} (hG : amG0 G) (hR : RM R) {u : Int} (hW : WF z) (hm : z 316 ≤ 1000) (hsv : 0 ≤ I 361 2 ∧ I 361 2 ≤ 5) (hQ : (¬ (1 ≤ u ∧ u ≤ 50) → Q (Sum.inl (some (aI 0))) (m3 (u2 I 361 0 1) z f q, R, L, SH, x, 0, 0)) ∧ ((1 ≤ u ∧ u ≤ 50) ∧ 1000 < z 316 + u → Q (Sum.inl (some (aI 0))) (m3 (u2 I 361 0 2) z f q, R, L, SH, x, 0, 0)) ∧ ((1 ≤ u ∧ u ≤ 50) ∧ z 316 + u ≤ 1000 → ∀ f q : Row, Q (Sum.inl (some (aI (passN z u.toNat 319 + passN z u.toNat 320 - (z 319 + z 320))))) (m3 (svH (u2 I 361 0 0) z) (passN z u.toNat) f q, R, L, SH, x, 0, 0))) : CT G sX10_pass [aR (some 361), aI u] (m3 I z f q, R, L, SH, x, c, t) Q := by
  refine CT_of ok_X10_pass hG (Nat.le_of_ble_eq_true rfl) ?_
  show X G mX10_pass Q 0 _ [] (m3 I z f q, R, L, SH, x, 0, 0)
  have hC := hW.2.2
  unfold wfC at hC
  refine B_X10_pass_0 ?_
  try dsimp only
  try simp (disch := omega) only [m3_z, m3_f, m3_q, m3_o, u2_m3_z, u2_m3_f, u2_m3_q, u2_m3_o, pr_at, pr_off, u2_pr, u2_at, u2_off, uz_same, uz_ne, Int.reduceToNat]
  refine ⟨⟨Nat.zero_le _, Nat.zero_le _, Nat.le_of_ble_eq_true rfl⟩, trivial, ?_⟩
  refine C_within hG (fun r hr => ?_)
  refine af_I0 rfl rfl (by decide) ?_
  try dsimp only
  try simp (disch := omega) only [m3_z, m3_f, m3_q, m3_o, u2_m3_z, u2_m3_f, u2_m3_q, u2_m3_o, pr_at, pr_off, u2_pr, u2_at, u2_off, uz_same, uz_ne, Int.reduceToNat]
  refine B_X10_pass_8 ?_
  try dsimp only
  try simp (disch := omega) only [m3_z, m3_f, m3_q, m3_o, u2_m3_z, u2_m3_f, u2_m3_q, u2_m3_o, pr_at, pr_off, u2_pr, u2_at, u2_off, uz_same, uz_ne, Int.reduceToNat]
  refine ⟨fun c8_1 => ?_, fun c8_1 => ?_⟩
  · refine B_X10_pass_15 ?_
    try dsimp only
    try simp (disch := omega) only [m3_z, m3_f, m3_q, m3_o, u2_m3_z, u2_m3_f, u2_m3_q, u2_m3_o, pr_at, pr_off, u2_pr, u2_at, u2_off, uz_same, uz_ne, Int.reduceToNat]
    refine ⟨sh361, _, hR.z, ?_⟩
    refine ⟨_, sh362, ⟨by omega, by omega⟩, ?_⟩
    try simp (disch := omega) only [m3_z, m3_f, m3_q, m3_o, u2_m3_z, u2_m3_f, u2_m3_q, u2_m3_o, pr_at, pr_off, u2_pr, u2_at, u2_off, uz_same, uz_ne, Int.reduceToNat]
    refine ⟨by (refine ⟨?_, ?_⟩ <;> omega), ?_⟩
    refine ⟨fun c28_2 => ?_, fun c28_2 => ?_⟩
    · refine B_X10_pass_35 ?_
      try dsimp only
      try simp (disch := omega) only [m3_z, m3_f, m3_q, m3_o, u2_m3_z, u2_m3_f, u2_m3_q, u2_m3_o, pr_at, pr_off, u2_pr, u2_at, u2_off, uz_same, uz_ne, Int.reduceToNat]
      refine B_X10_pass_36 ?_
      try dsimp only
      try simp (disch := omega) only [m3_z, m3_f, m3_q, m3_o, u2_m3_z, u2_m3_f, u2_m3_q, u2_m3_o, pr_at, pr_off, u2_pr, u2_at, u2_off, uz_same, uz_ne, Int.reduceToNat]
      refine ⟨sh361, ?_⟩
      try simp (disch := omega) only [m3_z, m3_f, m3_q, m3_o, u2_m3_z, u2_m3_f, u2_m3_q, u2_m3_o, pr_at, pr_off, u2_pr, u2_at, u2_off, uz_same, uz_ne, Int.reduceToNat]
      refine ⟨sh361, ?_⟩
      refine ⟨fun c43_4 => ?_, fun c43_4 => ?_⟩
      · refine B_X10_pass_48 ?_
        try dsimp only
        try simp (disch := omega) only [m3_z, m3_f, m3_q, m3_o, u2_m3_z, u2_m3_f, u2_m3_q, u2_m3_o, pr_at, pr_off, u2_pr, u2_at, u2_off, uz_same, uz_ne, Int.reduceToNat]
        first
          | (exfalso; omega)
          | exact absurd True.intro (by assumption)
          | (refine ⟨⟨Nat.zero_le _, Nat.zero_le _, Nat.le_of_ble_eq_true rfl⟩, sh361, ?_⟩
             refine C_saveH hG hR (by rw [u2_ne _ _ (by omega)]; exact hsv) ?_
             refine af_N0 rfl rfl rfl ?_
             try dsimp only
             try simp (disch := omega) only [m3_z, m3_f, m3_q, m3_o, u2_m3_z, u2_m3_f, u2_m3_q, u2_m3_o, pr_at, pr_off, u2_pr, u2_at, u2_off, uz_same, uz_ne, Int.reduceToNat]
             refine B_X10_pass_52 ?_
             try dsimp only
             try simp (disch := omega) only [m3_z, m3_f, m3_q, m3_o, u2_m3_z, u2_m3_f, u2_m3_q, u2_m3_o, pr_at, pr_off, u2_pr, u2_at, u2_off, uz_same, uz_ne, Int.reduceToNat]
             refine ⟨sh361, _, hR.z, ?_⟩
             refine ⟨_, sh362, ⟨by omega, by omega⟩, ?_⟩
             try simp (disch := omega) only [m3_z, m3_f, m3_q, m3_o, u2_m3_z, u2_m3_f, u2_m3_q, u2_m3_o, pr_at, pr_off, u2_pr, u2_at, u2_off, uz_same, uz_ne, Int.reduceToNat]
             refine ⟨sh361, _, hR.z, ?_⟩
             refine ⟨_, sh362, ⟨by omega, by omega⟩, ?_⟩
             try simp (disch := omega) only [m3_z, m3_f, m3_q, m3_o, u2_m3_z, u2_m3_f, u2_m3_q, u2_m3_o, pr_at, pr_off, u2_pr, u2_at, u2_off, uz_same, uz_ne, Int.reduceToNat]
             refine ⟨by (refine ⟨?_, ?_⟩ <;> omega), ?_⟩
             have hz := (passN_inv hW u.toNat (by omega)).1.2.2
             have hzt := (passN_inv hW u.toNat (by omega)).2.1
             have hC := hW.2.2
             unfold wfC at hz hC
             refine L_pass hG hR hW (by omega) (fun f2 q2 => ?_) (u.toNat + 1) 0 _ _ (by omega)
             refine B_X10_pass_87 ?_
             try dsimp only
             try simp (disch := omega) only [m3_z, m3_f, m3_q, m3_o, u2_m3_z, u2_m3_f, u2_m3_q, u2_m3_o, pr_at, pr_off, u2_pr, u2_at, u2_off, uz_same, uz_ne, Int.reduceToNat]
             refine ⟨sh361, _, hR.z, ?_⟩
             refine ⟨_, sh362, ⟨by omega, by omega⟩, ?_⟩
             try simp (disch := omega) only [m3_z, m3_f, m3_q, m3_o, u2_m3_z, u2_m3_f, u2_m3_q, u2_m3_o, pr_at, pr_off, u2_pr, u2_at, u2_off, uz_same, uz_ne, Int.reduceToNat]
             refine ⟨sh361, _, hR.z, ?_⟩
             refine ⟨_, sh362, ⟨by omega, by omega⟩, ?_⟩
             try simp (disch := omega) only [m3_z, m3_f, m3_q, m3_o, u2_m3_z, u2_m3_f, u2_m3_q, u2_m3_o, pr_at, pr_off, u2_pr, u2_at, u2_off, uz_same, uz_ne, Int.reduceToNat]
             refine ⟨by (refine ⟨?_, ?_⟩ <;> omega), ?_⟩
             refine ⟨by (refine ⟨?_, ?_⟩ <;> omega), ?_⟩
             exact hQ.2.2 (by omega) _ _)
      · first
          | exact absurd True.intro (by assumption)
          | (exfalso; omega)
          | exact hQ.1 (by omega)
          | exact hQ.2.1 (by omega)
    · refine B_X10_pass_36 ?_
      try dsimp only
      try simp (disch := omega) only [m3_z, m3_f, m3_q, m3_o, u2_m3_z, u2_m3_f, u2_m3_q, u2_m3_o, pr_at, pr_off, u2_pr, u2_at, u2_off, uz_same, uz_ne, Int.reduceToNat]
      refine ⟨sh361, ?_⟩
      try simp (disch := omega) only [m3_z, m3_f, m3_q, m3_o, u2_m3_z, u2_m3_f, u2_m3_q, u2_m3_o, pr_at, pr_off, u2_pr, u2_at, u2_off, uz_same, uz_ne, Int.reduceToNat]
      refine ⟨sh361, ?_⟩
      refine ⟨fun c43_3 => ?_, fun c43_3 => ?_⟩
      · refine B_X10_pass_48 ?_
        try dsimp only
        try simp (disch := omega) only [m3_z, m3_f, m3_q, m3_o, u2_m3_z, u2_m3_f, u2_m3_q, u2_m3_o, pr_at, pr_off, u2_pr, u2_at, u2_off, uz_same, uz_ne, Int.reduceToNat]
        first
          | (exfalso; omega)
          | exact absurd True.intro (by assumption)
          | (refine ⟨⟨Nat.zero_le _, Nat.zero_le _, Nat.le_of_ble_eq_true rfl⟩, sh361, ?_⟩
             refine C_saveH hG hR (by rw [u2_ne _ _ (by omega)]; exact hsv) ?_
             refine af_N0 rfl rfl rfl ?_
             try dsimp only
             try simp (disch := omega) only [m3_z, m3_f, m3_q, m3_o, u2_m3_z, u2_m3_f, u2_m3_q, u2_m3_o, pr_at, pr_off, u2_pr, u2_at, u2_off, uz_same, uz_ne, Int.reduceToNat]
             refine B_X10_pass_52 ?_
             try dsimp only
             try simp (disch := omega) only [m3_z, m3_f, m3_q, m3_o, u2_m3_z, u2_m3_f, u2_m3_q, u2_m3_o, pr_at, pr_off, u2_pr, u2_at, u2_off, uz_same, uz_ne, Int.reduceToNat]
             refine ⟨sh361, _, hR.z, ?_⟩
             refine ⟨_, sh362, ⟨by omega, by omega⟩, ?_⟩
             try simp (disch := omega) only [m3_z, m3_f, m3_q, m3_o, u2_m3_z, u2_m3_f, u2_m3_q, u2_m3_o, pr_at, pr_off, u2_pr, u2_at, u2_off, uz_same, uz_ne, Int.reduceToNat]
             refine ⟨sh361, _, hR.z, ?_⟩
             refine ⟨_, sh362, ⟨by omega, by omega⟩, ?_⟩
             try simp (disch := omega) only [m3_z, m3_f, m3_q, m3_o, u2_m3_z, u2_m3_f, u2_m3_q, u2_m3_o, pr_at, pr_off, u2_pr, u2_at, u2_off, uz_same, uz_ne, Int.reduceToNat]
             refine ⟨by (refine ⟨?_, ?_⟩ <;> omega), ?_⟩
             have hz := (passN_inv hW u.toNat (by omega)).1.2.2
             have hzt := (passN_inv hW u.toNat (by omega)).2.1
             have hC := hW.2.2
             unfold wfC at hz hC
             refine L_pass hG hR hW (by omega) (fun f2 q2 => ?_) (u.toNat + 1) 0 _ _ (by omega)
             refine B_X10_pass_87 ?_
             try dsimp only
             try simp (disch := omega) only [m3_z, m3_f, m3_q, m3_o, u2_m3_z, u2_m3_f, u2_m3_q, u2_m3_o, pr_at, pr_off, u2_pr, u2_at, u2_off, uz_same, uz_ne, Int.reduceToNat]
             refine ⟨sh361, _, hR.z, ?_⟩
             refine ⟨_, sh362, ⟨by omega, by omega⟩, ?_⟩
             try simp (disch := omega) only [m3_z, m3_f, m3_q, m3_o, u2_m3_z, u2_m3_f, u2_m3_q, u2_m3_o, pr_at, pr_off, u2_pr, u2_at, u2_off, uz_same, uz_ne, Int.reduceToNat]
             refine ⟨sh361, _, hR.z, ?_⟩
             refine ⟨_, sh362, ⟨by omega, by omega⟩, ?_⟩
             try simp (disch := omega) only [m3_z, m3_f, m3_q, m3_o, u2_m3_z, u2_m3_f, u2_m3_q, u2_m3_o, pr_at, pr_off, u2_pr, u2_at, u2_off, uz_same, uz_ne, Int.reduceToNat]
             refine ⟨by (refine ⟨?_, ?_⟩ <;> omega), ?_⟩
             refine ⟨by (refine ⟨?_, ?_⟩ <;> omega), ?_⟩
             exact hQ.2.2 (by omega) _ _)
      · first
          | exact absurd True.intro (by assumption)
          | (exfalso; omega)
          | exact hQ.1 (by omega)
          | exact hQ.2.1 (by omega)
  · refine B_X10_pass_36 ?_
    try dsimp only
    try simp (disch := omega) only [m3_z, m3_f, m3_q, m3_o, u2_m3_z, u2_m3_f, u2_m3_q, u2_m3_o, pr_at, pr_off, u2_pr, u2_at, u2_off, uz_same, uz_ne, Int.reduceToNat]
    refine ⟨sh361, ?_⟩
    try simp (disch := omega) only [m3_z, m3_f, m3_q, m3_o, u2_m3_z, u2_m3_f, u2_m3_q, u2_m3_o, pr_at, pr_off, u2_pr, u2_at, u2_off, uz_same, uz_ne, Int.reduceToNat]
    refine ⟨sh361, ?_⟩
    refine ⟨fun c43_2 => ?_, fun c43_2 => ?_⟩
    · refine B_X10_pass_48 ?_
      try dsimp only
      try simp (disch := omega) only [m3_z, m3_f, m3_q, m3_o, u2_m3_z, u2_m3_f, u2_m3_q, u2_m3_o, pr_at, pr_off, u2_pr, u2_at, u2_off, uz_same, uz_ne, Int.reduceToNat]
      first
        | (exfalso; omega)
        | exact absurd True.intro (by assumption)
        | (refine ⟨⟨Nat.zero_le _, Nat.zero_le _, Nat.le_of_ble_eq_true rfl⟩, sh361, ?_⟩
           refine C_saveH hG hR (by rw [u2_ne _ _ (by omega)]; exact hsv) ?_
           refine af_N0 rfl rfl rfl ?_
           try dsimp only
           try simp (disch := omega) only [m3_z, m3_f, m3_q, m3_o, u2_m3_z, u2_m3_f, u2_m3_q, u2_m3_o, pr_at, pr_off, u2_pr, u2_at, u2_off, uz_same, uz_ne, Int.reduceToNat]
           refine B_X10_pass_52 ?_
           try dsimp only
           try simp (disch := omega) only [m3_z, m3_f, m3_q, m3_o, u2_m3_z, u2_m3_f, u2_m3_q, u2_m3_o, pr_at, pr_off, u2_pr, u2_at, u2_off, uz_same, uz_ne, Int.reduceToNat]
           refine ⟨sh361, _, hR.z, ?_⟩
           refine ⟨_, sh362, ⟨by omega, by omega⟩, ?_⟩
           try simp (disch := omega) only [m3_z, m3_f, m3_q, m3_o, u2_m3_z, u2_m3_f, u2_m3_q, u2_m3_o, pr_at, pr_off, u2_pr, u2_at, u2_off, uz_same, uz_ne, Int.reduceToNat]
           refine ⟨sh361, _, hR.z, ?_⟩
           refine ⟨_, sh362, ⟨by omega, by omega⟩, ?_⟩
           try simp (disch := omega) only [m3_z, m3_f, m3_q, m3_o, u2_m3_z, u2_m3_f, u2_m3_q, u2_m3_o, pr_at, pr_off, u2_pr, u2_at, u2_off, uz_same, uz_ne, Int.reduceToNat]
           refine ⟨by (refine ⟨?_, ?_⟩ <;> omega), ?_⟩
           have hz := (passN_inv hW u.toNat (by omega)).1.2.2
           have hzt := (passN_inv hW u.toNat (by omega)).2.1
           have hC := hW.2.2
           unfold wfC at hz hC
           refine L_pass hG hR hW (by omega) (fun f2 q2 => ?_) (u.toNat + 1) 0 _ _ (by omega)
           refine B_X10_pass_87 ?_
           try dsimp only
           try simp (disch := omega) only [m3_z, m3_f, m3_q, m3_o, u2_m3_z, u2_m3_f, u2_m3_q, u2_m3_o, pr_at, pr_off, u2_pr, u2_at, u2_off, uz_same, uz_ne, Int.reduceToNat]
           refine ⟨sh361, _, hR.z, ?_⟩
           refine ⟨_, sh362, ⟨by omega, by omega⟩, ?_⟩
           try simp (disch := omega) only [m3_z, m3_f, m3_q, m3_o, u2_m3_z, u2_m3_f, u2_m3_q, u2_m3_o, pr_at, pr_off, u2_pr, u2_at, u2_off, uz_same, uz_ne, Int.reduceToNat]
           refine ⟨sh361, _, hR.z, ?_⟩
           refine ⟨_, sh362, ⟨by omega, by omega⟩, ?_⟩
           try simp (disch := omega) only [m3_z, m3_f, m3_q, m3_o, u2_m3_z, u2_m3_f, u2_m3_q, u2_m3_o, pr_at, pr_off, u2_pr, u2_at, u2_off, uz_same, uz_ne, Int.reduceToNat]
           refine ⟨by (refine ⟨?_, ?_⟩ <;> omega), ?_⟩
           refine ⟨by (refine ⟨?_, ?_⟩ <;> omega), ?_⟩
           exact hQ.2.2 (by omega) _ _)
    · first
        | exact absurd True.intro (by assumption)
        | (exfalso; omega)
        | exact hQ.1 (by omega)
        | exact hQ.2.1 (by omega)
theorem C_moveGeneral {G : amG} {I : Nat → Nat → Int} {z f q : Row} {R : Nat → Nat → Option Nat} {L : Nat → Nat → Int64} {x c t : Nat} {Q : amR → amH → Prop} (hG : amG0 G) (hR : RM R) {s v : Int} (hsv : 0 ≤ I 361 2 ∧ I 361 2 ≤ 5) (hQ : (¬ ((0 ≤ s ∧ s ≤ 1) ∧ 0 ≤ v ∧ v ≤ 95) → Q (Sum.inl (some (aI 0))) (m3 (u2 I 361 0 1) z f q, R, L, SH, x, 0, 0)) ∧ (((0 ≤ s ∧ s ≤ 1) ∧ 0 ≤ v ∧ v ≤ 95) → Q (Sum.inl (some (aI (z (96 + s).toNat)))) (m3 (svH (u2 I 361 0 0) z) (uz z (96 + s).toNat v) f q, R, L, SH, x, 0, 0))) : CT G sX10_moveGeneral [aR (some 361), aI s, aI v] (m3 I z f q, R, L, SH, x, c, t) Q := by
  refine CT_of ok_X10_moveGeneral hG (Nat.le_of_ble_eq_true rfl) ?_
  show X G mX10_moveGeneral Q 0 _ [] (m3 I z f q, R, L, SH, x, 0, 0)
  refine B_X10_moveGeneral_0 ?_
  try dsimp only
  try simp (disch := omega) only [m3_z, m3_f, m3_q, m3_o, u2_m3_z, u2_m3_f, u2_m3_q, u2_m3_o, pr_at, pr_off, u2_pr, u2_at, u2_off, uz_same, uz_ne, Int.reduceToNat]
  refine ⟨⟨Nat.zero_le _, Nat.zero_le _, Nat.le_of_ble_eq_true rfl⟩, trivial, ?_⟩
  refine C_isSide hG (fun r hr => ?_)
  refine af_I0 rfl rfl (by decide) ?_
  try dsimp only
  try simp (disch := omega) only [m3_z, m3_f, m3_q, m3_o, u2_m3_z, u2_m3_f, u2_m3_q, u2_m3_o, pr_at, pr_off, u2_pr, u2_at, u2_off, uz_same, uz_ne, Int.reduceToNat]
  refine B_X10_moveGeneral_5 ?_
  try dsimp only
  try simp (disch := omega) only [m3_z, m3_f, m3_q, m3_o, u2_m3_z, u2_m3_f, u2_m3_q, u2_m3_o, pr_at, pr_off, u2_pr, u2_at, u2_off, uz_same, uz_ne, Int.reduceToNat]
  refine ⟨fun c5_1 => ?_, fun c5_1 => ?_⟩
  · refine B_X10_moveGeneral_19 ?_
    try dsimp only
    try simp (disch := omega) only [m3_z, m3_f, m3_q, m3_o, u2_m3_z, u2_m3_f, u2_m3_q, u2_m3_o, pr_at, pr_off, u2_pr, u2_at, u2_off, uz_same, uz_ne, Int.reduceToNat]
    refine B_X10_moveGeneral_20 ?_
    try dsimp only
    try simp (disch := omega) only [m3_z, m3_f, m3_q, m3_o, u2_m3_z, u2_m3_f, u2_m3_q, u2_m3_o, pr_at, pr_off, u2_pr, u2_at, u2_off, uz_same, uz_ne, Int.reduceToNat]
    refine ⟨sh361, ?_⟩
    try simp (disch := omega) only [m3_z, m3_f, m3_q, m3_o, u2_m3_z, u2_m3_f, u2_m3_q, u2_m3_o, pr_at, pr_off, u2_pr, u2_at, u2_off, uz_same, uz_ne, Int.reduceToNat]
    refine ⟨sh361, ?_⟩
    refine ⟨fun c27_3 => ?_, fun c27_3 => ?_⟩
    · refine B_X10_moveGeneral_32 ?_
      try dsimp only
      try simp (disch := omega) only [m3_z, m3_f, m3_q, m3_o, u2_m3_z, u2_m3_f, u2_m3_q, u2_m3_o, pr_at, pr_off, u2_pr, u2_at, u2_off, uz_same, uz_ne, Int.reduceToNat]
      first
        | (exfalso; omega)
        | exact absurd True.intro (by assumption)
        | (refine ⟨⟨Nat.zero_le _, Nat.zero_le _, Nat.le_of_ble_eq_true rfl⟩, sh361, ?_⟩
           refine C_saveH hG hR (by rw [u2_ne _ _ (by omega)]; exact hsv) ?_
           refine af_N0 rfl rfl rfl ?_
           try dsimp only
           try simp (disch := omega) only [m3_z, m3_f, m3_q, m3_o, u2_m3_z, u2_m3_f, u2_m3_q, u2_m3_o, pr_at, pr_off, u2_pr, u2_at, u2_off, uz_same, uz_ne, Int.reduceToNat]
           refine B_X10_moveGeneral_36 ?_
           try dsimp only
           try simp (disch := omega) only [m3_z, m3_f, m3_q, m3_o, u2_m3_z, u2_m3_f, u2_m3_q, u2_m3_o, pr_at, pr_off, u2_pr, u2_at, u2_off, uz_same, uz_ne, Int.reduceToNat]
           refine ⟨sh361, _, hR.z, ?_⟩
           refine ⟨by (refine ⟨?_, ?_⟩ <;> omega), ?_⟩
           refine ⟨_, sh362, ⟨by omega, by omega⟩, ?_⟩
           try simp (disch := omega) only [m3_z, m3_f, m3_q, m3_o, u2_m3_z, u2_m3_f, u2_m3_q, u2_m3_o, pr_at, pr_off, u2_pr, u2_at, u2_off, uz_same, uz_ne, Int.reduceToNat]
           refine ⟨sh361, _, hR.z, ?_⟩
           refine ⟨by (refine ⟨?_, ?_⟩ <;> omega), ?_⟩
           refine ⟨_, sh362, ⟨by omega, by omega⟩, ?_⟩
           try simp (disch := omega) only [m3_z, m3_f, m3_q, m3_o, u2_m3_z, u2_m3_f, u2_m3_q, u2_m3_o, pr_at, pr_off, u2_pr, u2_at, u2_off, uz_same, uz_ne, Int.reduceToNat]
           first
             | exact absurd True.intro (by assumption)
             | (exfalso; omega)
             | exact hQ.1 (by omega)
             | exact hQ.2 (by omega))
    · first
        | exact absurd True.intro (by assumption)
        | (exfalso; omega)
        | exact hQ.1 (by omega)
        | exact hQ.2 (by omega)
  · refine ⟨⟨Nat.zero_le _, Nat.zero_le _, Nat.le_of_ble_eq_true rfl⟩, trivial, ?_⟩
    refine C_isCell hG (fun r2 hr2 => ?_)
    refine af_I0 rfl rfl (by decide) ?_
    try dsimp only
    try simp (disch := omega) only [m3_z, m3_f, m3_q, m3_o, u2_m3_z, u2_m3_f, u2_m3_q, u2_m3_o, pr_at, pr_off, u2_pr, u2_at, u2_off, uz_same, uz_ne, Int.reduceToNat]
    refine B_X10_moveGeneral_12 ?_
    try dsimp only
    try simp (disch := omega) only [m3_z, m3_f, m3_q, m3_o, u2_m3_z, u2_m3_f, u2_m3_q, u2_m3_o, pr_at, pr_off, u2_pr, u2_at, u2_off, uz_same, uz_ne, Int.reduceToNat]
    refine ⟨fun c12_2 => ?_, fun c12_2 => ?_⟩
    · refine B_X10_moveGeneral_19 ?_
      try dsimp only
      try simp (disch := omega) only [m3_z, m3_f, m3_q, m3_o, u2_m3_z, u2_m3_f, u2_m3_q, u2_m3_o, pr_at, pr_off, u2_pr, u2_at, u2_off, uz_same, uz_ne, Int.reduceToNat]
      refine B_X10_moveGeneral_20 ?_
      try dsimp only
      try simp (disch := omega) only [m3_z, m3_f, m3_q, m3_o, u2_m3_z, u2_m3_f, u2_m3_q, u2_m3_o, pr_at, pr_off, u2_pr, u2_at, u2_off, uz_same, uz_ne, Int.reduceToNat]
      refine ⟨sh361, ?_⟩
      try simp (disch := omega) only [m3_z, m3_f, m3_q, m3_o, u2_m3_z, u2_m3_f, u2_m3_q, u2_m3_o, pr_at, pr_off, u2_pr, u2_at, u2_off, uz_same, uz_ne, Int.reduceToNat]
      refine ⟨sh361, ?_⟩
      refine ⟨fun c27_4 => ?_, fun c27_4 => ?_⟩
      · refine B_X10_moveGeneral_32 ?_
        try dsimp only
        try simp (disch := omega) only [m3_z, m3_f, m3_q, m3_o, u2_m3_z, u2_m3_f, u2_m3_q, u2_m3_o, pr_at, pr_off, u2_pr, u2_at, u2_off, uz_same, uz_ne, Int.reduceToNat]
        first
          | (exfalso; omega)
          | exact absurd True.intro (by assumption)
          | (refine ⟨⟨Nat.zero_le _, Nat.zero_le _, Nat.le_of_ble_eq_true rfl⟩, sh361, ?_⟩
             refine C_saveH hG hR (by rw [u2_ne _ _ (by omega)]; exact hsv) ?_
             refine af_N0 rfl rfl rfl ?_
             try dsimp only
             try simp (disch := omega) only [m3_z, m3_f, m3_q, m3_o, u2_m3_z, u2_m3_f, u2_m3_q, u2_m3_o, pr_at, pr_off, u2_pr, u2_at, u2_off, uz_same, uz_ne, Int.reduceToNat]
             refine B_X10_moveGeneral_36 ?_
             try dsimp only
             try simp (disch := omega) only [m3_z, m3_f, m3_q, m3_o, u2_m3_z, u2_m3_f, u2_m3_q, u2_m3_o, pr_at, pr_off, u2_pr, u2_at, u2_off, uz_same, uz_ne, Int.reduceToNat]
             refine ⟨sh361, _, hR.z, ?_⟩
             refine ⟨by (refine ⟨?_, ?_⟩ <;> omega), ?_⟩
             refine ⟨_, sh362, ⟨by omega, by omega⟩, ?_⟩
             try simp (disch := omega) only [m3_z, m3_f, m3_q, m3_o, u2_m3_z, u2_m3_f, u2_m3_q, u2_m3_o, pr_at, pr_off, u2_pr, u2_at, u2_off, uz_same, uz_ne, Int.reduceToNat]
             refine ⟨sh361, _, hR.z, ?_⟩
             refine ⟨by (refine ⟨?_, ?_⟩ <;> omega), ?_⟩
             refine ⟨_, sh362, ⟨by omega, by omega⟩, ?_⟩
             try simp (disch := omega) only [m3_z, m3_f, m3_q, m3_o, u2_m3_z, u2_m3_f, u2_m3_q, u2_m3_o, pr_at, pr_off, u2_pr, u2_at, u2_off, uz_same, uz_ne, Int.reduceToNat]
             first
               | exact absurd True.intro (by assumption)
               | (exfalso; omega)
               | exact hQ.1 (by omega)
               | exact hQ.2 (by omega))
      · first
          | exact absurd True.intro (by assumption)
          | (exfalso; omega)
          | exact hQ.1 (by omega)
          | exact hQ.2 (by omega)
    · refine B_X10_moveGeneral_20 ?_
      try dsimp only
      try simp (disch := omega) only [m3_z, m3_f, m3_q, m3_o, u2_m3_z, u2_m3_f, u2_m3_q, u2_m3_o, pr_at, pr_off, u2_pr, u2_at, u2_off, uz_same, uz_ne, Int.reduceToNat]
      refine ⟨sh361, ?_⟩
      try simp (disch := omega) only [m3_z, m3_f, m3_q, m3_o, u2_m3_z, u2_m3_f, u2_m3_q, u2_m3_o, pr_at, pr_off, u2_pr, u2_at, u2_off, uz_same, uz_ne, Int.reduceToNat]
      refine ⟨sh361, ?_⟩
      refine ⟨fun c27_3 => ?_, fun c27_3 => ?_⟩
      · refine B_X10_moveGeneral_32 ?_
        try dsimp only
        try simp (disch := omega) only [m3_z, m3_f, m3_q, m3_o, u2_m3_z, u2_m3_f, u2_m3_q, u2_m3_o, pr_at, pr_off, u2_pr, u2_at, u2_off, uz_same, uz_ne, Int.reduceToNat]
        first
          | (exfalso; omega)
          | exact absurd True.intro (by assumption)
          | (refine ⟨⟨Nat.zero_le _, Nat.zero_le _, Nat.le_of_ble_eq_true rfl⟩, sh361, ?_⟩
             refine C_saveH hG hR (by rw [u2_ne _ _ (by omega)]; exact hsv) ?_
             refine af_N0 rfl rfl rfl ?_
             try dsimp only
             try simp (disch := omega) only [m3_z, m3_f, m3_q, m3_o, u2_m3_z, u2_m3_f, u2_m3_q, u2_m3_o, pr_at, pr_off, u2_pr, u2_at, u2_off, uz_same, uz_ne, Int.reduceToNat]
             refine B_X10_moveGeneral_36 ?_
             try dsimp only
             try simp (disch := omega) only [m3_z, m3_f, m3_q, m3_o, u2_m3_z, u2_m3_f, u2_m3_q, u2_m3_o, pr_at, pr_off, u2_pr, u2_at, u2_off, uz_same, uz_ne, Int.reduceToNat]
             refine ⟨sh361, _, hR.z, ?_⟩
             refine ⟨by (refine ⟨?_, ?_⟩ <;> omega), ?_⟩
             refine ⟨_, sh362, ⟨by omega, by omega⟩, ?_⟩
             try simp (disch := omega) only [m3_z, m3_f, m3_q, m3_o, u2_m3_z, u2_m3_f, u2_m3_q, u2_m3_o, pr_at, pr_off, u2_pr, u2_at, u2_off, uz_same, uz_ne, Int.reduceToNat]
             refine ⟨sh361, _, hR.z, ?_⟩
             refine ⟨by (refine ⟨?_, ?_⟩ <;> omega), ?_⟩
             refine ⟨_, sh362, ⟨by omega, by omega⟩, ?_⟩
             try simp (disch := omega) only [m3_z, m3_f, m3_q, m3_o, u2_m3_z, u2_m3_f, u2_m3_q, u2_m3_o, pr_at, pr_off, u2_pr, u2_at, u2_off, uz_same, uz_ne, Int.reduceToNat]
             first
               | exact absurd True.intro (by assumption)
               | (exfalso; omega)
               | exact hQ.1 (by omega)
               | exact hQ.2 (by omega))
      · first
          | exact absurd True.intro (by assumption)
          | (exfalso; omega)
          | exact hQ.1 (by omega)
          | exact hQ.2 (by omega)
theorem L_shape {G : amG} {I : Nat → Nat → Int} {R : Nat → Nat → Option Nat} {L : Nat → Nat → Int64} {x : Nat} {Q : amR → amH → Prop} (hG : amG0 G) (hR : RM R) {z f q : Row} {a b h s : Int} (ha : 0 ≤ a ∧ a ≤ 95) (hb : a - 1 ≤ b ∧ b ≤ 95) (hQ : Q (Sum.inl (some (aI (shZ z a b h (b - a + 1).toNat).2))) (m3 I (shZ z a b h (b - a + 1).toNat).1 f q, R, L, SH, x, 0, 0)) :
    ∀ (n : Nat) (j : Int), (a ≤ j ∧ j ≤ b + 1 ∧ b + 1 - j < n) → X G mX10_shape Q 93 [some (aR (some 361)), some (aI a), some (aI b), some (aI h), some (aI s), some (aI (shZ z a b h (j - a).toNat).2), some (aI j)] [] (m3 I (shZ z a b h (j - a).toNat).1 f q, R, L, SH, x, 0, 0) := by
  intro n
  induction n with
  | zero =>
    intros
    exfalso; omega
  | succ n ih =>
    intro j h1
    have hs := shZ_s z a b h (j - a).toNat
    have hbd := shZ_b z a b h (j - a).toNat
    have ej : a + ((j - a).toNat : Int) = j := by omega
    rw [ej] at hs
    have hQ' : j = b + 1 → Q (Sum.inl (some (aI (shZ z a b h (j - a).toNat).2))) (m3 I (shZ z a b h (j - a).toNat).1 f q, R, L, SH, x, 0, 0) := fun e => by rw [show j - a = b - a + 1 by omega]; exact hQ
    generalize shZ z a b h (j - a).toNat = S at *
    have tm1 : a.tmod 12 = a % 12 := Int.tmod_eq_emod_of_nonneg (by omega)
    have tm2 : j.tmod 12 = j % 12 := Int.tmod_eq_emod_of_nonneg (by omega)
    have tm3 : 0 ≤ b → b.tmod 12 = b % 12 ∧ b.tdiv 12 = b / 12 := fun q => ⟨Int.tmod_eq_emod_of_nonneg q, Int.tdiv_eq_ediv_of_nonneg q⟩
    have td1 : a.tdiv 12 = a / 12 := Int.tdiv_eq_ediv_of_nonneg (by omega)
    have td2 : j.tdiv 12 = j / 12 := Int.tdiv_eq_ediv_of_nonneg (by omega)
    refine B_X10_shape_93 ?_
    try dsimp only
    try simp (disch := omega) only [m3_z, m3_f, m3_q, m3_o, u2_m3_z, u2_m3_f, u2_m3_q, u2_m3_o, pr_at, pr_off, u2_pr, u2_at, u2_off, uz_same, uz_ne, Int.reduceToNat]
    refine ⟨fun c96_0 => ?_, fun c96_0 => ?_⟩
    · refine B_X10_shape_153 ?_
      try dsimp only
      try simp (disch := omega) only [m3_z, m3_f, m3_q, m3_o, u2_m3_z, u2_m3_f, u2_m3_q, u2_m3_o, pr_at, pr_off, u2_pr, u2_at, u2_off, uz_same, uz_ne, Int.reduceToNat]
      exact hQ' (by omega)
    · refine ⟨⟨by decide, by (refine ⟨?_, ?_⟩ <;> omega)⟩, ?_⟩
      refine ⟨⟨by decide, by (refine ⟨?_, ?_⟩ <;> omega)⟩, ?_⟩
      refine ⟨⟨by decide, by (refine ⟨?_, ?_⟩ <;> omega)⟩, ?_⟩
      refine ⟨⟨Nat.zero_le _, Nat.zero_le _, Nat.le_of_ble_eq_true rfl⟩, trivial, ?_⟩
      refine C_within hG (fun r hr => ?_)
      refine af_I0 rfl rfl (by decide) ?_
      try dsimp only
      try simp (disch := omega) only [m3_z, m3_f, m3_q, m3_o, u2_m3_z, u2_m3_f, u2_m3_q, u2_m3_o, pr_at, pr_off, u2_pr, u2_at, u2_off, uz_same, uz_ne, Int.reduceToNat]
      refine B_X10_shape_115 ?_
      try dsimp only
      try simp (disch := omega) only [m3_z, m3_f, m3_q, m3_o, u2_m3_z, u2_m3_f, u2_m3_q, u2_m3_o, pr_at, pr_off, u2_pr, u2_at, u2_off, uz_same, uz_ne, Int.reduceToNat]
      refine ⟨fun c115_1 => ?_, fun c115_1 => ?_⟩
      · refine B_X10_shape_147 ?_
        try dsimp only
        try simp (disch := omega) only [m3_z, m3_f, m3_q, m3_o, u2_m3_z, u2_m3_f, u2_m3_q, u2_m3_o, pr_at, pr_off, u2_pr, u2_at, u2_off, uz_same, uz_ne, Int.reduceToNat]
        refine ⟨by (refine ⟨?_, ?_⟩ <;> omega), ?_⟩
        have e := ih (j + 1) (by omega)
        rw [show (j + 1 - a).toNat = (j - a).toNat + 1 by omega, hs] at e
        first
          | (rw [if_neg (by omega)] at e; exact e)
          | (rw [if_pos (by omega), if_pos (show S.1 j.toNat = h by omega)] at e; exact e)
          | (rw [if_pos (by omega), if_neg (show ¬ S.1 j.toNat = h by omega)] at e; exact e)
      · refine ⟨sh361, _, hR.z, ?_⟩
        refine ⟨_, sh362, ⟨by omega, by omega⟩, ?_⟩
        try simp (disch := omega) only [m3_z, m3_f, m3_q, m3_o, u2_m3_z, u2_m3_f, u2_m3_q, u2_m3_o, pr_at, pr_off, u2_pr, u2_at, u2_off, uz_same, uz_ne, Int.reduceToNat]
        refine ⟨fun c128_1 => ?_, fun c128_1 => ?_⟩
        · refine B_X10_shape_135 ?_
          try dsimp only
          try simp (disch := omega) only [m3_z, m3_f, m3_q, m3_o, u2_m3_z, u2_m3_f, u2_m3_q, u2_m3_o, pr_at, pr_off, u2_pr, u2_at, u2_off, uz_same, uz_ne, Int.reduceToNat]
          refine B_X10_shape_136 ?_
          try dsimp only
          try simp (disch := omega) only [m3_z, m3_f, m3_q, m3_o, u2_m3_z, u2_m3_f, u2_m3_q, u2_m3_o, pr_at, pr_off, u2_pr, u2_at, u2_off, uz_same, uz_ne, Int.reduceToNat]
          refine ⟨by (refine ⟨?_, ?_⟩ <;> omega), ?_⟩
          refine ⟨sh361, _, hR.z, ?_⟩
          refine ⟨_, sh362, ⟨by omega, by omega⟩, ?_⟩
          try simp (disch := omega) only [m3_z, m3_f, m3_q, m3_o, u2_m3_z, u2_m3_f, u2_m3_q, u2_m3_o, pr_at, pr_off, u2_pr, u2_at, u2_off, uz_same, uz_ne, Int.reduceToNat]
          refine B_X10_shape_147 ?_
          try dsimp only
          try simp (disch := omega) only [m3_z, m3_f, m3_q, m3_o, u2_m3_z, u2_m3_f, u2_m3_q, u2_m3_o, pr_at, pr_off, u2_pr, u2_at, u2_off, uz_same, uz_ne, Int.reduceToNat]
          refine ⟨by (refine ⟨?_, ?_⟩ <;> omega), ?_⟩
          have e := ih (j + 1) (by omega)
          rw [show (j + 1 - a).toNat = (j - a).toNat + 1 by omega, hs] at e
          first
            | (rw [if_neg (by omega)] at e; exact e)
            | (rw [if_pos (by omega), if_pos (show S.1 j.toNat = h by omega)] at e; exact e)
            | (rw [if_pos (by omega), if_neg (show ¬ S.1 j.toNat = h by omega)] at e; exact e)
        · refine B_X10_shape_136 ?_
          try dsimp only
          try simp (disch := omega) only [m3_z, m3_f, m3_q, m3_o, u2_m3_z, u2_m3_f, u2_m3_q, u2_m3_o, pr_at, pr_off, u2_pr, u2_at, u2_off, uz_same, uz_ne, Int.reduceToNat]
          refine ⟨by (refine ⟨?_, ?_⟩ <;> omega), ?_⟩
          refine ⟨sh361, _, hR.z, ?_⟩
          refine ⟨_, sh362, ⟨by omega, by omega⟩, ?_⟩
          try simp (disch := omega) only [m3_z, m3_f, m3_q, m3_o, u2_m3_z, u2_m3_f, u2_m3_q, u2_m3_o, pr_at, pr_off, u2_pr, u2_at, u2_off, uz_same, uz_ne, Int.reduceToNat]
          refine B_X10_shape_147 ?_
          try dsimp only
          try simp (disch := omega) only [m3_z, m3_f, m3_q, m3_o, u2_m3_z, u2_m3_f, u2_m3_q, u2_m3_o, pr_at, pr_off, u2_pr, u2_at, u2_off, uz_same, uz_ne, Int.reduceToNat]
          refine ⟨by (refine ⟨?_, ?_⟩ <;> omega), ?_⟩
          have e := ih (j + 1) (by omega)
          rw [show (j + 1 - a).toNat = (j - a).toNat + 1 by omega, hs] at e
          first
            | (rw [if_neg (by omega)] at e; exact e)
            | (rw [if_pos (by omega), if_pos (show S.1 j.toNat = h by omega)] at e; exact e)
            | (rw [if_pos (by omega), if_neg (show ¬ S.1 j.toNat = h by omega)] at e; exact e)
theorem C_shape {G : amG} {I : Nat → Nat → Int} {z f q : Row} {R : Nat → Nat → Option Nat} {L : Nat → Nat → Int64} {x c t : Nat} {Q : amR → amH → Prop} (hG : amG0 G) (hR : RM R) {a b h : Int} (hsv : 0 ≤ I 361 2 ∧ I 361 2 ≤ 5) (hQ : (¬ ((0 ≤ a ∧ a ≤ 95) ∧ 0 ≤ b ∧ b ≤ 95) → Q (Sum.inl (some (aI 0))) (m3 (u2 I 361 0 1) z f q, R, L, SH, x, 0, 0)) ∧ (((0 ≤ a ∧ a ≤ 95) ∧ 0 ≤ b ∧ b ≤ 95) ∧ ¬ ((a % 12 ≤ b % 12 ∧ a / 12 ≤ b / 12) ∧ 0 ≤ h ∧ h ≤ 9) → Q (Sum.inl (some (aI 0))) (m3 (u2 I 361 0 2) z f q, R, L, SH, x, 0, 0)) ∧ (((0 ≤ a ∧ a ≤ 95) ∧ 0 ≤ b ∧ b ≤ 95) ∧ ((a % 12 ≤ b % 12 ∧ a / 12 ≤ b / 12) ∧ 0 ≤ h ∧ h ≤ 9) → Q (Sum.inl (some (aI (shZ z a b h (b - a + 1).toNat).2))) (m3 (svH (u2 I 361 0 0) z) (shZ z a b h (b - a + 1).toNat).1 f q, R, L, SH, x, 0, 0))) : CT G sX10_shape [aR (some 361), aI a, aI b, aI h] (m3 I z f q, R, L, SH, x, c, t) Q := by
  refine CT_of ok_X10_shape hG (Nat.le_of_ble_eq_true rfl) ?_
  show X G mX10_shape Q 0 _ [] (m3 I z f q, R, L, SH, x, 0, 0)
  refine B_X10_shape_0 ?_
  try dsimp only
  try simp (disch := omega) only [m3_z, m3_f, m3_q, m3_o, u2_m3_z, u2_m3_f, u2_m3_q, u2_m3_o, pr_at, pr_off, u2_pr, u2_at, u2_off, uz_same, uz_ne, Int.reduceToNat]
  refine ⟨⟨Nat.zero_le _, Nat.zero_le _, Nat.le_of_ble_eq_true rfl⟩, trivial, ?_⟩
  refine C_isCell hG (fun r hr => ?_)
  refine af_I0 rfl rfl (by decide) ?_
  try dsimp only
  try simp (disch := omega) only [m3_z, m3_f, m3_q, m3_o, u2_m3_z, u2_m3_f, u2_m3_q, u2_m3_o, pr_at, pr_off, u2_pr, u2_at, u2_off, uz_same, uz_ne, Int.reduceToNat]
  refine B_X10_shape_4 ?_
  try dsimp only
  try simp (disch := omega) only [m3_z, m3_f, m3_q, m3_o, u2_m3_z, u2_m3_f, u2_m3_q, u2_m3_o, pr_at, pr_off, u2_pr, u2_at, u2_off, uz_same, uz_ne, Int.reduceToNat]
  refine ⟨fun c4_1 => ?_, fun c4_1 => ?_⟩
  · refine B_X10_shape_14 ?_
    try dsimp only
    try simp (disch := omega) only [m3_z, m3_f, m3_q, m3_o, u2_m3_z, u2_m3_f, u2_m3_q, u2_m3_o, pr_at, pr_off, u2_pr, u2_at, u2_off, uz_same, uz_ne, Int.reduceToNat]
    refine ⟨sh361, ?_⟩
    try simp (disch := omega) only [m3_z, m3_f, m3_q, m3_o, u2_m3_z, u2_m3_f, u2_m3_q, u2_m3_o, pr_at, pr_off, u2_pr, u2_at, u2_off, uz_same, uz_ne, Int.reduceToNat]
    first
      | exact absurd True.intro (by assumption)
      | (exfalso; omega)
      | exact hQ.1 (by omega)
      | exact hQ.2.1 (by omega)
  · refine ⟨⟨Nat.zero_le _, Nat.zero_le _, Nat.le_of_ble_eq_true rfl⟩, trivial, ?_⟩
    refine C_isCell hG (fun r2 hr2 => ?_)
    refine af_I0 rfl rfl (by decide) ?_
    try dsimp only
    try simp (disch := omega) only [m3_z, m3_f, m3_q, m3_o, u2_m3_z, u2_m3_f, u2_m3_q, u2_m3_o, pr_at, pr_off, u2_pr, u2_at, u2_off, uz_same, uz_ne, Int.reduceToNat]
    refine B_X10_shape_11 ?_
    try dsimp only
    try simp (disch := omega) only [m3_z, m3_f, m3_q, m3_o, u2_m3_z, u2_m3_f, u2_m3_q, u2_m3_o, pr_at, pr_off, u2_pr, u2_at, u2_off, uz_same, uz_ne, Int.reduceToNat]
    refine ⟨fun c11_2 => ?_, fun c11_2 => ?_⟩
    · refine B_X10_shape_21 ?_
      try dsimp only
      try simp (disch := omega) only [m3_z, m3_f, m3_q, m3_o, u2_m3_z, u2_m3_f, u2_m3_q, u2_m3_o, pr_at, pr_off, u2_pr, u2_at, u2_off, uz_same, uz_ne, Int.reduceToNat]
      have tm1 : a.tmod 12 = a % 12 := Int.tmod_eq_emod_of_nonneg (by omega)
      have tm2 : b.tmod 12 = b % 12 := Int.tmod_eq_emod_of_nonneg (by omega)
      have td1 : a.tdiv 12 = a / 12 := Int.tdiv_eq_ediv_of_nonneg (by omega)
      have td2 : b.tdiv 12 = b / 12 := Int.tdiv_eq_ediv_of_nonneg (by omega)
      refine ⟨⟨by decide, by (refine ⟨?_, ?_⟩ <;> omega)⟩, ?_⟩
      refine ⟨⟨by decide, by (refine ⟨?_, ?_⟩ <;> omega)⟩, ?_⟩
      refine ⟨fun c29_3 => ?_, fun c29_3 => ?_⟩
      · refine B_X10_shape_47 ?_
        try dsimp only
        try simp (disch := omega) only [m3_z, m3_f, m3_q, m3_o, u2_m3_z, u2_m3_f, u2_m3_q, u2_m3_o, pr_at, pr_off, u2_pr, u2_at, u2_off, uz_same, uz_ne, Int.reduceToNat]
        refine B_X10_shape_48 ?_
        try dsimp only
        try simp (disch := omega) only [m3_z, m3_f, m3_q, m3_o, u2_m3_z, u2_m3_f, u2_m3_q, u2_m3_o, pr_at, pr_off, u2_pr, u2_at, u2_off, uz_same, uz_ne, Int.reduceToNat]
        refine ⟨fun c53_5 => ?_, fun c53_5 => ?_⟩
        · refine B_X10_shape_70 ?_
          try dsimp only
          try simp (disch := omega) only [m3_z, m3_f, m3_q, m3_o, u2_m3_z, u2_m3_f, u2_m3_q, u2_m3_o, pr_at, pr_off, u2_pr, u2_at, u2_off, uz_same, uz_ne, Int.reduceToNat]
          refine B_X10_shape_71 ?_
          try dsimp only
          try simp (disch := omega) only [m3_z, m3_f, m3_q, m3_o, u2_m3_z, u2_m3_f, u2_m3_q, u2_m3_o, pr_at, pr_off, u2_pr, u2_at, u2_off, uz_same, uz_ne, Int.reduceToNat]
          refine ⟨sh361, ?_⟩
          try simp (disch := omega) only [m3_z, m3_f, m3_q, m3_o, u2_m3_z, u2_m3_f, u2_m3_q, u2_m3_o, pr_at, pr_off, u2_pr, u2_at, u2_off, uz_same, uz_ne, Int.reduceToNat]
          refine ⟨sh361, ?_⟩
          refine ⟨fun c78_7 => ?_, fun c78_7 => ?_⟩
          · refine B_X10_shape_83 ?_
            try dsimp only
            try simp (disch := omega) only [m3_z, m3_f, m3_q, m3_o, u2_m3_z, u2_m3_f, u2_m3_q, u2_m3_o, pr_at, pr_off, u2_pr, u2_at, u2_off, uz_same, uz_ne, Int.reduceToNat]
            first
              | (exfalso; omega)
              | exact absurd True.intro (by assumption)
              | (refine ⟨⟨Nat.zero_le _, Nat.zero_le _, Nat.le_of_ble_eq_true rfl⟩, sh361, ?_⟩
                 refine C_saveH hG hR (by rw [u2_ne _ _ (by omega)]; exact hsv) ?_
                 refine af_N0 rfl rfl rfl ?_
                 try dsimp only
                 try simp (disch := omega) only [m3_z, m3_f, m3_q, m3_o, u2_m3_z, u2_m3_f, u2_m3_q, u2_m3_o, pr_at, pr_off, u2_pr, u2_at, u2_off, uz_same, uz_ne, Int.reduceToNat]
                 refine B_X10_shape_87 ?_
                 try dsimp only
                 try simp (disch := omega) only [m3_z, m3_f, m3_q, m3_o, u2_m3_z, u2_m3_f, u2_m3_q, u2_m3_o, pr_at, pr_off, u2_pr, u2_at, u2_off, uz_same, uz_ne, Int.reduceToNat]
                 have e := L_shape (s := 1) hG hR (Q := Q) (by omega) (by omega) (hQ.2.2 (by omega)) 200 a (by omega)
                 rw [show (a - a).toNat = 0 by omega] at e
                 exact e)
          · first
              | exact absurd True.intro (by assumption)
              | (exfalso; omega)
              | exact hQ.1 (by omega)
              | exact hQ.2.1 (by omega)
        · first
            | (exfalso; omega)
            | exact absurd True.intro (by assumption)
            | (refine ⟨⟨Nat.zero_le _, Nat.zero_le _, Nat.le_of_ble_eq_true rfl⟩, trivial, ?_⟩
               refine C_within hG (fun r3 hr3 => ?_)
               refine af_I0 rfl rfl (by decide) ?_
               try dsimp only
               try simp (disch := omega) only [m3_z, m3_f, m3_q, m3_o, u2_m3_z, u2_m3_f, u2_m3_q, u2_m3_o, pr_at, pr_off, u2_pr, u2_at, u2_off, uz_same, uz_ne, Int.reduceToNat]
               refine B_X10_shape_63 ?_
               try dsimp only
               try simp (disch := omega) only [m3_z, m3_f, m3_q, m3_o, u2_m3_z, u2_m3_f, u2_m3_q, u2_m3_o, pr_at, pr_off, u2_pr, u2_at, u2_off, uz_same, uz_ne, Int.reduceToNat]
               refine ⟨fun c63_6 => ?_, fun c63_6 => ?_⟩
               · refine B_X10_shape_70 ?_
                 try dsimp only
                 try simp (disch := omega) only [m3_z, m3_f, m3_q, m3_o, u2_m3_z, u2_m3_f, u2_m3_q, u2_m3_o, pr_at, pr_off, u2_pr, u2_at, u2_off, uz_same, uz_ne, Int.reduceToNat]
                 refine B_X10_shape_71 ?_
                 try dsimp only
                 try simp (disch := omega) only [m3_z, m3_f, m3_q, m3_o, u2_m3_z, u2_m3_f, u2_m3_q, u2_m3_o, pr_at, pr_off, u2_pr, u2_at, u2_off, uz_same, uz_ne, Int.reduceToNat]
                 refine ⟨sh361, ?_⟩
                 try simp (disch := omega) only [m3_z, m3_f, m3_q, m3_o, u2_m3_z, u2_m3_f, u2_m3_q, u2_m3_o, pr_at, pr_off, u2_pr, u2_at, u2_off, uz_same, uz_ne, Int.reduceToNat]
                 refine ⟨sh361, ?_⟩
                 refine ⟨fun c78_8 => ?_, fun c78_8 => ?_⟩
                 · refine B_X10_shape_83 ?_
                   try dsimp only
                   try simp (disch := omega) only [m3_z, m3_f, m3_q, m3_o, u2_m3_z, u2_m3_f, u2_m3_q, u2_m3_o, pr_at, pr_off, u2_pr, u2_at, u2_off, uz_same, uz_ne, Int.reduceToNat]
                   first
                     | (exfalso; omega)
                     | exact absurd True.intro (by assumption)
                     | (refine ⟨⟨Nat.zero_le _, Nat.zero_le _, Nat.le_of_ble_eq_true rfl⟩, sh361, ?_⟩
                        refine C_saveH hG hR (by rw [u2_ne _ _ (by omega)]; exact hsv) ?_
                        refine af_N0 rfl rfl rfl ?_
                        try dsimp only
                        try simp (disch := omega) only [m3_z, m3_f, m3_q, m3_o, u2_m3_z, u2_m3_f, u2_m3_q, u2_m3_o, pr_at, pr_off, u2_pr, u2_at, u2_off, uz_same, uz_ne, Int.reduceToNat]
                        refine B_X10_shape_87 ?_
                        try dsimp only
                        try simp (disch := omega) only [m3_z, m3_f, m3_q, m3_o, u2_m3_z, u2_m3_f, u2_m3_q, u2_m3_o, pr_at, pr_off, u2_pr, u2_at, u2_off, uz_same, uz_ne, Int.reduceToNat]
                        have e := L_shape (s := 1) hG hR (Q := Q) (by omega) (by omega) (hQ.2.2 (by omega)) 200 a (by omega)
                        rw [show (a - a).toNat = 0 by omega] at e
                        exact e)
                 · first
                     | exact absurd True.intro (by assumption)
                     | (exfalso; omega)
                     | exact hQ.1 (by omega)
                     | exact hQ.2.1 (by omega)
               · refine B_X10_shape_71 ?_
                 try dsimp only
                 try simp (disch := omega) only [m3_z, m3_f, m3_q, m3_o, u2_m3_z, u2_m3_f, u2_m3_q, u2_m3_o, pr_at, pr_off, u2_pr, u2_at, u2_off, uz_same, uz_ne, Int.reduceToNat]
                 refine ⟨sh361, ?_⟩
                 try simp (disch := omega) only [m3_z, m3_f, m3_q, m3_o, u2_m3_z, u2_m3_f, u2_m3_q, u2_m3_o, pr_at, pr_off, u2_pr, u2_at, u2_off, uz_same, uz_ne, Int.reduceToNat]
                 refine ⟨sh361, ?_⟩
                 refine ⟨fun c78_7 => ?_, fun c78_7 => ?_⟩
                 · refine B_X10_shape_83 ?_
                   try dsimp only
                   try simp (disch := omega) only [m3_z, m3_f, m3_q, m3_o, u2_m3_z, u2_m3_f, u2_m3_q, u2_m3_o, pr_at, pr_off, u2_pr, u2_at, u2_off, uz_same, uz_ne, Int.reduceToNat]
                   first
                     | (exfalso; omega)
                     | exact absurd True.intro (by assumption)
                     | (refine ⟨⟨Nat.zero_le _, Nat.zero_le _, Nat.le_of_ble_eq_true rfl⟩, sh361, ?_⟩
                        refine C_saveH hG hR (by rw [u2_ne _ _ (by omega)]; exact hsv) ?_
                        refine af_N0 rfl rfl rfl ?_
                        try dsimp only
                        try simp (disch := omega) only [m3_z, m3_f, m3_q, m3_o, u2_m3_z, u2_m3_f, u2_m3_q, u2_m3_o, pr_at, pr_off, u2_pr, u2_at, u2_off, uz_same, uz_ne, Int.reduceToNat]
                        refine B_X10_shape_87 ?_
                        try dsimp only
                        try simp (disch := omega) only [m3_z, m3_f, m3_q, m3_o, u2_m3_z, u2_m3_f, u2_m3_q, u2_m3_o, pr_at, pr_off, u2_pr, u2_at, u2_off, uz_same, uz_ne, Int.reduceToNat]
                        have e := L_shape (s := 1) hG hR (Q := Q) (by omega) (by omega) (hQ.2.2 (by omega)) 200 a (by omega)
                        rw [show (a - a).toNat = 0 by omega] at e
                        exact e)
                 · first
                     | exact absurd True.intro (by assumption)
                     | (exfalso; omega)
                     | exact hQ.1 (by omega)
                     | exact hQ.2.1 (by omega))
      · refine ⟨⟨by decide, by (refine ⟨?_, ?_⟩ <;> omega)⟩, ?_⟩
        refine ⟨⟨by decide, by (refine ⟨?_, ?_⟩ <;> omega)⟩, ?_⟩
        refine ⟨fun c40_3 => ?_, fun c40_3 => ?_⟩
        · refine B_X10_shape_47 ?_
          try dsimp only
          try simp (disch := omega) only [m3_z, m3_f, m3_q, m3_o, u2_m3_z, u2_m3_f, u2_m3_q, u2_m3_o, pr_at, pr_off, u2_pr, u2_at, u2_off, uz_same, uz_ne, Int.reduceToNat]
          refine B_X10_shape_48 ?_
          try dsimp only
          try simp (disch := omega) only [m3_z, m3_f, m3_q, m3_o, u2_m3_z, u2_m3_f, u2_m3_q, u2_m3_o, pr_at, pr_off, u2_pr, u2_at, u2_off, uz_same, uz_ne, Int.reduceToNat]
          refine ⟨fun c53_5 => ?_, fun c53_5 => ?_⟩
          · refine B_X10_shape_70 ?_
            try dsimp only
            try simp (disch := omega) only [m3_z, m3_f, m3_q, m3_o, u2_m3_z, u2_m3_f, u2_m3_q, u2_m3_o, pr_at, pr_off, u2_pr, u2_at, u2_off, uz_same, uz_ne, Int.reduceToNat]
            refine B_X10_shape_71 ?_
            try dsimp only
            try simp (disch := omega) only [m3_z, m3_f, m3_q, m3_o, u2_m3_z, u2_m3_f, u2_m3_q, u2_m3_o, pr_at, pr_off, u2_pr, u2_at, u2_off, uz_same, uz_ne, Int.reduceToNat]
            refine ⟨sh361, ?_⟩
            try simp (disch := omega) only [m3_z, m3_f, m3_q, m3_o, u2_m3_z, u2_m3_f, u2_m3_q, u2_m3_o, pr_at, pr_off, u2_pr, u2_at, u2_off, uz_same, uz_ne, Int.reduceToNat]
            refine ⟨sh361, ?_⟩
            refine ⟨fun c78_7 => ?_, fun c78_7 => ?_⟩
            · refine B_X10_shape_83 ?_
              try dsimp only
              try simp (disch := omega) only [m3_z, m3_f, m3_q, m3_o, u2_m3_z, u2_m3_f, u2_m3_q, u2_m3_o, pr_at, pr_off, u2_pr, u2_at, u2_off, uz_same, uz_ne, Int.reduceToNat]
              first
                | (exfalso; omega)
                | exact absurd True.intro (by assumption)
                | (refine ⟨⟨Nat.zero_le _, Nat.zero_le _, Nat.le_of_ble_eq_true rfl⟩, sh361, ?_⟩
                   refine C_saveH hG hR (by rw [u2_ne _ _ (by omega)]; exact hsv) ?_
                   refine af_N0 rfl rfl rfl ?_
                   try dsimp only
                   try simp (disch := omega) only [m3_z, m3_f, m3_q, m3_o, u2_m3_z, u2_m3_f, u2_m3_q, u2_m3_o, pr_at, pr_off, u2_pr, u2_at, u2_off, uz_same, uz_ne, Int.reduceToNat]
                   refine B_X10_shape_87 ?_
                   try dsimp only
                   try simp (disch := omega) only [m3_z, m3_f, m3_q, m3_o, u2_m3_z, u2_m3_f, u2_m3_q, u2_m3_o, pr_at, pr_off, u2_pr, u2_at, u2_off, uz_same, uz_ne, Int.reduceToNat]
                   have e := L_shape (s := 1) hG hR (Q := Q) (by omega) (by omega) (hQ.2.2 (by omega)) 200 a (by omega)
                   rw [show (a - a).toNat = 0 by omega] at e
                   exact e)
            · first
                | exact absurd True.intro (by assumption)
                | (exfalso; omega)
                | exact hQ.1 (by omega)
                | exact hQ.2.1 (by omega)
          · first
              | (exfalso; omega)
              | exact absurd True.intro (by assumption)
              | (refine ⟨⟨Nat.zero_le _, Nat.zero_le _, Nat.le_of_ble_eq_true rfl⟩, trivial, ?_⟩
                 refine C_within hG (fun r3 hr3 => ?_)
                 refine af_I0 rfl rfl (by decide) ?_
                 try dsimp only
                 try simp (disch := omega) only [m3_z, m3_f, m3_q, m3_o, u2_m3_z, u2_m3_f, u2_m3_q, u2_m3_o, pr_at, pr_off, u2_pr, u2_at, u2_off, uz_same, uz_ne, Int.reduceToNat]
                 refine B_X10_shape_63 ?_
                 try dsimp only
                 try simp (disch := omega) only [m3_z, m3_f, m3_q, m3_o, u2_m3_z, u2_m3_f, u2_m3_q, u2_m3_o, pr_at, pr_off, u2_pr, u2_at, u2_off, uz_same, uz_ne, Int.reduceToNat]
                 refine ⟨fun c63_6 => ?_, fun c63_6 => ?_⟩
                 · refine B_X10_shape_70 ?_
                   try dsimp only
                   try simp (disch := omega) only [m3_z, m3_f, m3_q, m3_o, u2_m3_z, u2_m3_f, u2_m3_q, u2_m3_o, pr_at, pr_off, u2_pr, u2_at, u2_off, uz_same, uz_ne, Int.reduceToNat]
                   refine B_X10_shape_71 ?_
                   try dsimp only
                   try simp (disch := omega) only [m3_z, m3_f, m3_q, m3_o, u2_m3_z, u2_m3_f, u2_m3_q, u2_m3_o, pr_at, pr_off, u2_pr, u2_at, u2_off, uz_same, uz_ne, Int.reduceToNat]
                   refine ⟨sh361, ?_⟩
                   try simp (disch := omega) only [m3_z, m3_f, m3_q, m3_o, u2_m3_z, u2_m3_f, u2_m3_q, u2_m3_o, pr_at, pr_off, u2_pr, u2_at, u2_off, uz_same, uz_ne, Int.reduceToNat]
                   refine ⟨sh361, ?_⟩
                   refine ⟨fun c78_8 => ?_, fun c78_8 => ?_⟩
                   · refine B_X10_shape_83 ?_
                     try dsimp only
                     try simp (disch := omega) only [m3_z, m3_f, m3_q, m3_o, u2_m3_z, u2_m3_f, u2_m3_q, u2_m3_o, pr_at, pr_off, u2_pr, u2_at, u2_off, uz_same, uz_ne, Int.reduceToNat]
                     first
                       | (exfalso; omega)
                       | exact absurd True.intro (by assumption)
                       | (refine ⟨⟨Nat.zero_le _, Nat.zero_le _, Nat.le_of_ble_eq_true rfl⟩, sh361, ?_⟩
                          refine C_saveH hG hR (by rw [u2_ne _ _ (by omega)]; exact hsv) ?_
                          refine af_N0 rfl rfl rfl ?_
                          try dsimp only
                          try simp (disch := omega) only [m3_z, m3_f, m3_q, m3_o, u2_m3_z, u2_m3_f, u2_m3_q, u2_m3_o, pr_at, pr_off, u2_pr, u2_at, u2_off, uz_same, uz_ne, Int.reduceToNat]
                          refine B_X10_shape_87 ?_
                          try dsimp only
                          try simp (disch := omega) only [m3_z, m3_f, m3_q, m3_o, u2_m3_z, u2_m3_f, u2_m3_q, u2_m3_o, pr_at, pr_off, u2_pr, u2_at, u2_off, uz_same, uz_ne, Int.reduceToNat]
                          have e := L_shape (s := 1) hG hR (Q := Q) (by omega) (by omega) (hQ.2.2 (by omega)) 200 a (by omega)
                          rw [show (a - a).toNat = 0 by omega] at e
                          exact e)
                   · first
                       | exact absurd True.intro (by assumption)
                       | (exfalso; omega)
                       | exact hQ.1 (by omega)
                       | exact hQ.2.1 (by omega)
                 · refine B_X10_shape_71 ?_
                   try dsimp only
                   try simp (disch := omega) only [m3_z, m3_f, m3_q, m3_o, u2_m3_z, u2_m3_f, u2_m3_q, u2_m3_o, pr_at, pr_off, u2_pr, u2_at, u2_off, uz_same, uz_ne, Int.reduceToNat]
                   refine ⟨sh361, ?_⟩
                   try simp (disch := omega) only [m3_z, m3_f, m3_q, m3_o, u2_m3_z, u2_m3_f, u2_m3_q, u2_m3_o, pr_at, pr_off, u2_pr, u2_at, u2_off, uz_same, uz_ne, Int.reduceToNat]
                   refine ⟨sh361, ?_⟩
                   refine ⟨fun c78_7 => ?_, fun c78_7 => ?_⟩
                   · refine B_X10_shape_83 ?_
                     try dsimp only
                     try simp (disch := omega) only [m3_z, m3_f, m3_q, m3_o, u2_m3_z, u2_m3_f, u2_m3_q, u2_m3_o, pr_at, pr_off, u2_pr, u2_at, u2_off, uz_same, uz_ne, Int.reduceToNat]
                     first
                       | (exfalso; omega)
                       | exact absurd True.intro (by assumption)
                       | (refine ⟨⟨Nat.zero_le _, Nat.zero_le _, Nat.le_of_ble_eq_true rfl⟩, sh361, ?_⟩
                          refine C_saveH hG hR (by rw [u2_ne _ _ (by omega)]; exact hsv) ?_
                          refine af_N0 rfl rfl rfl ?_
                          try dsimp only
                          try simp (disch := omega) only [m3_z, m3_f, m3_q, m3_o, u2_m3_z, u2_m3_f, u2_m3_q, u2_m3_o, pr_at, pr_off, u2_pr, u2_at, u2_off, uz_same, uz_ne, Int.reduceToNat]
                          refine B_X10_shape_87 ?_
                          try dsimp only
                          try simp (disch := omega) only [m3_z, m3_f, m3_q, m3_o, u2_m3_z, u2_m3_f, u2_m3_q, u2_m3_o, pr_at, pr_off, u2_pr, u2_at, u2_off, uz_same, uz_ne, Int.reduceToNat]
                          have e := L_shape (s := 1) hG hR (Q := Q) (by omega) (by omega) (hQ.2.2 (by omega)) 200 a (by omega)
                          rw [show (a - a).toNat = 0 by omega] at e
                          exact e)
                   · first
                       | exact absurd True.intro (by assumption)
                       | (exfalso; omega)
                       | exact hQ.1 (by omega)
                       | exact hQ.2.1 (by omega))
        · refine B_X10_shape_48 ?_
          try dsimp only
          try simp (disch := omega) only [m3_z, m3_f, m3_q, m3_o, u2_m3_z, u2_m3_f, u2_m3_q, u2_m3_o, pr_at, pr_off, u2_pr, u2_at, u2_off, uz_same, uz_ne, Int.reduceToNat]
          refine ⟨fun c53_4 => ?_, fun c53_4 => ?_⟩
          · refine B_X10_shape_70 ?_
            try dsimp only
            try simp (disch := omega) only [m3_z, m3_f, m3_q, m3_o, u2_m3_z, u2_m3_f, u2_m3_q, u2_m3_o, pr_at, pr_off, u2_pr, u2_at, u2_off, uz_same, uz_ne, Int.reduceToNat]
            refine B_X10_shape_71 ?_
            try dsimp only
            try simp (disch := omega) only [m3_z, m3_f, m3_q, m3_o, u2_m3_z, u2_m3_f, u2_m3_q, u2_m3_o, pr_at, pr_off, u2_pr, u2_at, u2_off, uz_same, uz_ne, Int.reduceToNat]
            refine ⟨sh361, ?_⟩
            try simp (disch := omega) only [m3_z, m3_f, m3_q, m3_o, u2_m3_z, u2_m3_f, u2_m3_q, u2_m3_o, pr_at, pr_off, u2_pr, u2_at, u2_off, uz_same, uz_ne, Int.reduceToNat]
            refine ⟨sh361, ?_⟩
            refine ⟨fun c78_6 => ?_, fun c78_6 => ?_⟩
            · refine B_X10_shape_83 ?_
              try dsimp only
              try simp (disch := omega) only [m3_z, m3_f, m3_q, m3_o, u2_m3_z, u2_m3_f, u2_m3_q, u2_m3_o, pr_at, pr_off, u2_pr, u2_at, u2_off, uz_same, uz_ne, Int.reduceToNat]
              first
                | (exfalso; omega)
                | exact absurd True.intro (by assumption)
                | (refine ⟨⟨Nat.zero_le _, Nat.zero_le _, Nat.le_of_ble_eq_true rfl⟩, sh361, ?_⟩
                   refine C_saveH hG hR (by rw [u2_ne _ _ (by omega)]; exact hsv) ?_
                   refine af_N0 rfl rfl rfl ?_
                   try dsimp only
                   try simp (disch := omega) only [m3_z, m3_f, m3_q, m3_o, u2_m3_z, u2_m3_f, u2_m3_q, u2_m3_o, pr_at, pr_off, u2_pr, u2_at, u2_off, uz_same, uz_ne, Int.reduceToNat]
                   refine B_X10_shape_87 ?_
                   try dsimp only
                   try simp (disch := omega) only [m3_z, m3_f, m3_q, m3_o, u2_m3_z, u2_m3_f, u2_m3_q, u2_m3_o, pr_at, pr_off, u2_pr, u2_at, u2_off, uz_same, uz_ne, Int.reduceToNat]
                   have e := L_shape (s := 1) hG hR (Q := Q) (by omega) (by omega) (hQ.2.2 (by omega)) 200 a (by omega)
                   rw [show (a - a).toNat = 0 by omega] at e
                   exact e)
            · first
                | exact absurd True.intro (by assumption)
                | (exfalso; omega)
                | exact hQ.1 (by omega)
                | exact hQ.2.1 (by omega)
          · first
              | (exfalso; omega)
              | exact absurd True.intro (by assumption)
              | (refine ⟨⟨Nat.zero_le _, Nat.zero_le _, Nat.le_of_ble_eq_true rfl⟩, trivial, ?_⟩
                 refine C_within hG (fun r3 hr3 => ?_)
                 refine af_I0 rfl rfl (by decide) ?_
                 try dsimp only
                 try simp (disch := omega) only [m3_z, m3_f, m3_q, m3_o, u2_m3_z, u2_m3_f, u2_m3_q, u2_m3_o, pr_at, pr_off, u2_pr, u2_at, u2_off, uz_same, uz_ne, Int.reduceToNat]
                 refine B_X10_shape_63 ?_
                 try dsimp only
                 try simp (disch := omega) only [m3_z, m3_f, m3_q, m3_o, u2_m3_z, u2_m3_f, u2_m3_q, u2_m3_o, pr_at, pr_off, u2_pr, u2_at, u2_off, uz_same, uz_ne, Int.reduceToNat]
                 refine ⟨fun c63_5 => ?_, fun c63_5 => ?_⟩
                 · refine B_X10_shape_70 ?_
                   try dsimp only
                   try simp (disch := omega) only [m3_z, m3_f, m3_q, m3_o, u2_m3_z, u2_m3_f, u2_m3_q, u2_m3_o, pr_at, pr_off, u2_pr, u2_at, u2_off, uz_same, uz_ne, Int.reduceToNat]
                   refine B_X10_shape_71 ?_
                   try dsimp only
                   try simp (disch := omega) only [m3_z, m3_f, m3_q, m3_o, u2_m3_z, u2_m3_f, u2_m3_q, u2_m3_o, pr_at, pr_off, u2_pr, u2_at, u2_off, uz_same, uz_ne, Int.reduceToNat]
                   refine ⟨sh361, ?_⟩
                   try simp (disch := omega) only [m3_z, m3_f, m3_q, m3_o, u2_m3_z, u2_m3_f, u2_m3_q, u2_m3_o, pr_at, pr_off, u2_pr, u2_at, u2_off, uz_same, uz_ne, Int.reduceToNat]
                   refine ⟨sh361, ?_⟩
                   refine ⟨fun c78_7 => ?_, fun c78_7 => ?_⟩
                   · refine B_X10_shape_83 ?_
                     try dsimp only
                     try simp (disch := omega) only [m3_z, m3_f, m3_q, m3_o, u2_m3_z, u2_m3_f, u2_m3_q, u2_m3_o, pr_at, pr_off, u2_pr, u2_at, u2_off, uz_same, uz_ne, Int.reduceToNat]
                     first
                       | (exfalso; omega)
                       | exact absurd True.intro (by assumption)
                       | (refine ⟨⟨Nat.zero_le _, Nat.zero_le _, Nat.le_of_ble_eq_true rfl⟩, sh361, ?_⟩
                          refine C_saveH hG hR (by rw [u2_ne _ _ (by omega)]; exact hsv) ?_
                          refine af_N0 rfl rfl rfl ?_
                          try dsimp only
                          try simp (disch := omega) only [m3_z, m3_f, m3_q, m3_o, u2_m3_z, u2_m3_f, u2_m3_q, u2_m3_o, pr_at, pr_off, u2_pr, u2_at, u2_off, uz_same, uz_ne, Int.reduceToNat]
                          refine B_X10_shape_87 ?_
                          try dsimp only
                          try simp (disch := omega) only [m3_z, m3_f, m3_q, m3_o, u2_m3_z, u2_m3_f, u2_m3_q, u2_m3_o, pr_at, pr_off, u2_pr, u2_at, u2_off, uz_same, uz_ne, Int.reduceToNat]
                          have e := L_shape (s := 1) hG hR (Q := Q) (by omega) (by omega) (hQ.2.2 (by omega)) 200 a (by omega)
                          rw [show (a - a).toNat = 0 by omega] at e
                          exact e)
                   · first
                       | exact absurd True.intro (by assumption)
                       | (exfalso; omega)
                       | exact hQ.1 (by omega)
                       | exact hQ.2.1 (by omega)
                 · refine B_X10_shape_71 ?_
                   try dsimp only
                   try simp (disch := omega) only [m3_z, m3_f, m3_q, m3_o, u2_m3_z, u2_m3_f, u2_m3_q, u2_m3_o, pr_at, pr_off, u2_pr, u2_at, u2_off, uz_same, uz_ne, Int.reduceToNat]
                   refine ⟨sh361, ?_⟩
                   try simp (disch := omega) only [m3_z, m3_f, m3_q, m3_o, u2_m3_z, u2_m3_f, u2_m3_q, u2_m3_o, pr_at, pr_off, u2_pr, u2_at, u2_off, uz_same, uz_ne, Int.reduceToNat]
                   refine ⟨sh361, ?_⟩
                   refine ⟨fun c78_6 => ?_, fun c78_6 => ?_⟩
                   · refine B_X10_shape_83 ?_
                     try dsimp only
                     try simp (disch := omega) only [m3_z, m3_f, m3_q, m3_o, u2_m3_z, u2_m3_f, u2_m3_q, u2_m3_o, pr_at, pr_off, u2_pr, u2_at, u2_off, uz_same, uz_ne, Int.reduceToNat]
                     first
                       | (exfalso; omega)
                       | exact absurd True.intro (by assumption)
                       | (refine ⟨⟨Nat.zero_le _, Nat.zero_le _, Nat.le_of_ble_eq_true rfl⟩, sh361, ?_⟩
                          refine C_saveH hG hR (by rw [u2_ne _ _ (by omega)]; exact hsv) ?_
                          refine af_N0 rfl rfl rfl ?_
                          try dsimp only
                          try simp (disch := omega) only [m3_z, m3_f, m3_q, m3_o, u2_m3_z, u2_m3_f, u2_m3_q, u2_m3_o, pr_at, pr_off, u2_pr, u2_at, u2_off, uz_same, uz_ne, Int.reduceToNat]
                          refine B_X10_shape_87 ?_
                          try dsimp only
                          try simp (disch := omega) only [m3_z, m3_f, m3_q, m3_o, u2_m3_z, u2_m3_f, u2_m3_q, u2_m3_o, pr_at, pr_off, u2_pr, u2_at, u2_off, uz_same, uz_ne, Int.reduceToNat]
                          have e := L_shape (s := 1) hG hR (Q := Q) (by omega) (by omega) (hQ.2.2 (by omega)) 200 a (by omega)
                          rw [show (a - a).toNat = 0 by omega] at e
                          exact e)
                   · first
                       | exact absurd True.intro (by assumption)
                       | (exfalso; omega)
                       | exact hQ.1 (by omega)
                       | exact hQ.2.1 (by omega))
    · refine B_X10_shape_14 ?_
      try dsimp only
      try simp (disch := omega) only [m3_z, m3_f, m3_q, m3_o, u2_m3_z, u2_m3_f, u2_m3_q, u2_m3_o, pr_at, pr_off, u2_pr, u2_at, u2_off, uz_same, uz_ne, Int.reduceToNat]
      refine ⟨sh361, ?_⟩
      try simp (disch := omega) only [m3_z, m3_f, m3_q, m3_o, u2_m3_z, u2_m3_f, u2_m3_q, u2_m3_o, pr_at, pr_off, u2_pr, u2_at, u2_off, uz_same, uz_ne, Int.reduceToNat]
      first
        | exact absurd True.intro (by assumption)
        | (exfalso; omega)
        | exact hQ.1 (by omega)
        | exact hQ.2.1 (by omega)
