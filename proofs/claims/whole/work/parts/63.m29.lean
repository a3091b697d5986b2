theorem pr_pr (I : Nat → Nat → Int) (a : Nat) (r s : Row) : pr (pr I a r) a s = pr I a s := funext (fun b => by
  unfold pr
  split <;> rfl)
abbrev F5 (z : Row) (w : Nat) : Int := cntZ (passN z 10) ((w : Int) + 6)
def dgP (z : Row) (h : Int64) : Int64 := mxN (F5 z) (mx (mx h (Int64.ofInt (cntZ (passN z 10) 2))) (Int64.ofInt (cntZ (passN z 10) 3))) 5
/-- the digest -/
def dgF (z : Row) (sv : Int) (t : Row) (n : Int) : Int64 := mxN t (mx (mx (dgP z (dgA z sv (Int64.ofNat 2243))) (shZr z).toInt64) (Int64.ofInt n)) n.toNat
theorem L_dg1 {G : amG} {I : Nat → Nat → Int} {R : Nat → Nat → Option Nat} {L : Nat → Nat → Int64} {x : Nat} {Q : amR → amH → Prop} (hG : amG0 G) (hR : RM R) {z : Row} {h : Int64} (hW : WF z) (hm : z 316 ≤ 1000) (hK : ∀ a f q : Row, X G mX10_digest Q 67 [some (aR (some 361)), some (aI 11)] [] (m3 (pr I 367 a) z f q, R, u2 L 361 13 (mxN (F5 z) h 5), SH, x, 0, 0)) :
    ∀ (n : Nat) (j : Int) (a f q : Row), (6 ≤ j ∧ j ≤ 11 ∧ 11 - j < n) → X G mX10_digest Q 43 [some (aR (some 361)), some (aI j)] [] (m3 (pr I 367 a) z f q, R, u2 L 361 13 (mxN (F5 z) h (j - 6).toNat), SH, x, 0, 0) := by
  intro n
  induction n with
  | zero =>
    intros
    exfalso; omega
  | succ n ih =>
    intro j a f q h1
    have hs := mxN_s (F5 z) h (j - 6).toNat
    have h0C := hW.2.2.1.1
    refine B_X10_digest_43 ?_
    try dsimp only
    try simp (disch := omega) only [m3_z, m3_f, m3_q, m3_o, u2_m3_z, u2_m3_f, u2_m3_q, u2_m3_o, pr_at, pr_off, u2_pr, u2_at, u2_off, uz_same, uz_ne, Int.reduceToNat, pr_pr]
    refine ⟨fun c46_0 => ?_, fun c46_0 => ?_⟩
    · have e : j = 11 := by omega
      rw [e]
      exact hK a f q
    · refine ⟨⟨Nat.zero_le _, Nat.zero_le _, Nat.le_of_ble_eq_true rfl⟩, sh361, ?_⟩
      refine C_passed hG hR hW (by omega) (by omega) (fun a2 f2 q2 => ?_)
      have hr : cntZ (passN z (10 : Int).toNat) j = F5 z (j - 6).toNat := by
        show cntZ (passN z 10) j = cntZ (passN z 10) (((j - 6).toNat : Nat) + 6)
        rw [show (((j - 6).toNat : Nat) : Int) + 6 = j by omega]
      rw [hr, pr_pr]
      refine af_I0 rfl rfl (by decide) ?_
      try dsimp only
      try simp (disch := omega) only [m3_z, m3_f, m3_q, m3_o, u2_m3_z, u2_m3_f, u2_m3_q, u2_m3_o, pr_at, pr_off, u2_pr, u2_at, u2_off, uz_same, uz_ne, Int.reduceToNat, pr_pr]
      refine B_X10_digest_57 ?_
      try dsimp only
      try simp (disch := omega) only [m3_z, m3_f, m3_q, m3_o, u2_m3_z, u2_m3_f, u2_m3_q, u2_m3_o, pr_at, pr_off, u2_pr, u2_at, u2_off, uz_same, uz_ne, Int.reduceToNat, pr_pr]
      refine ⟨⟨Nat.zero_le _, Nat.zero_le _, Nat.le_of_ble_eq_true rfl⟩, sh361, ?_⟩
      refine C_mix hG hR ?_
      refine af_N0 rfl rfl rfl ?_
      try dsimp only
      try simp (disch := omega) only [m3_z, m3_f, m3_q, m3_o, u2_m3_z, u2_m3_f, u2_m3_q, u2_m3_o, pr_at, pr_off, u2_pr, u2_at, u2_off, uz_same, uz_ne, Int.reduceToNat, pr_pr]
      refine B_X10_digest_61 ?_
      try dsimp only
      try simp (disch := omega) only [m3_z, m3_f, m3_q, m3_o, u2_m3_z, u2_m3_f, u2_m3_q, u2_m3_o, pr_at, pr_off, u2_pr, u2_at, u2_off, uz_same, uz_ne, Int.reduceToNat, pr_pr]
      refine ⟨by (refine ⟨?_, ?_⟩ <;> omega), ?_⟩
      have e := ih (j + 1) a2 f2 q2 (by omega)
      rw [show (j + 1 - 6).toNat = (j - 6).toNat + 1 by omega, hs] at e
      exact e
theorem L_dg2 {G : amG} {I : Nat → Nat → Int} {R : Nat → Nat → Option Nat} {L : Nat → Nat → Int64} {x : Nat} {Q : amR → amH → Prop} (hG : amG0 G) (hR : RM R) {z f q t : Row} {h : Int64} {m : Int} (hm : 0 ≤ m ∧ m ≤ 60) (ht : I 364 = t) (hl : I 361 4 = m) (hQ : ∀ l : Int64, Q (Sum.inl (some (aL (mxN t h m.toNat)))) (m3 I z f q, R, u2 L 361 13 (l), SH, x, 0, 0)) :
    ∀ (n : Nat) (j : Int), (0 ≤ j ∧ j ≤ m ∧ m - j < n) → X G mX10_digest Q 89 [some (aR (some 361)), some (aI j)] [] (m3 I z f q, R, u2 L 361 13 (mxN t h j.toNat), SH, x, 0, 0) := by
  intro n
  induction n with
  | zero =>
    intros
    exfalso; omega
  | succ n ih =>
    intro j h1
    have hs := mxN_s t h j.toNat
    refine B_X10_digest_89 ?_
    try dsimp only
    (try simp (disch := omega) only [m3_z, m3_f, m3_q, m3_o, u2_m3_z, u2_m3_f, u2_m3_q, u2_m3_o, pr_at, pr_off, u2_pr, u2_at, u2_off, uz_same, uz_ne, Int.reduceToNat]; try simp only [hl, ht])
    refine ⟨sh361, ?_⟩
    refine ⟨fun c94_0 => ?_, fun c94_0 => ?_⟩
    · refine B_X10_digest_114 ?_
      try dsimp only
      (try simp (disch := omega) only [m3_z, m3_f, m3_q, m3_o, u2_m3_z, u2_m3_f, u2_m3_q, u2_m3_o, pr_at, pr_off, u2_pr, u2_at, u2_off, uz_same, uz_ne, Int.reduceToNat]; try simp only [hl, ht])
      refine ⟨sh361, ?_⟩
      refine ⟨rfl, ?_⟩
      rw [u2_same, show j = m by omega]
      exact hQ _
    · refine ⟨sh361, _, hR.text, ?_⟩
      refine ⟨_, sh364, ⟨by omega, by omega⟩, ?_⟩
      (try simp (disch := omega) only [m3_z, m3_f, m3_q, m3_o, u2_m3_z, u2_m3_f, u2_m3_q, u2_m3_o, pr_at, pr_off, u2_pr, u2_at, u2_off, uz_same, uz_ne, Int.reduceToNat]; try simp only [hl, ht])
      refine ⟨⟨Nat.zero_le _, Nat.zero_le _, Nat.le_of_ble_eq_true rfl⟩, sh361, ?_⟩
      refine C_mix hG hR ?_
      refine af_N0 rfl rfl rfl ?_
      try dsimp only
      (try simp (disch := omega) only [m3_z, m3_f, m3_q, m3_o, u2_m3_z, u2_m3_f, u2_m3_q, u2_m3_o, pr_at, pr_off, u2_pr, u2_at, u2_off, uz_same, uz_ne, Int.reduceToNat]; try simp only [hl, ht])
      refine B_X10_digest_108 ?_
      try dsimp only
      (try simp (disch := omega) only [m3_z, m3_f, m3_q, m3_o, u2_m3_z, u2_m3_f, u2_m3_q, u2_m3_o, pr_at, pr_off, u2_pr, u2_at, u2_off, uz_same, uz_ne, Int.reduceToNat]; try simp only [hl, ht])
      refine ⟨by (refine ⟨?_, ?_⟩ <;> omega), ?_⟩
      have e := ih (j + 1) (by omega)
      rw [show (j + 1).toNat = j.toNat + 1 by omega, hs] at e
      exact e
theorem C_digest {G : amG} {I : Nat → Nat → Int} {z f q : Row} {R : Nat → Nat → Option Nat} {L : Nat → Nat → Int64} {x c t : Nat} {Q : amR → amH → Prop} (hG : amG0 G) (hR : RM R) (hW : WF z) (hm : z 316 ≤ 1000) (hl : 0 ≤ I 361 4 ∧ I 361 4 ≤ 60) (hQ : ∀ (a f q : Row) (l : Int64), Q (Sum.inl (some (aL (dgF z (I 361 2) (I 364) (I 361 4))))) (m3 (pr (u2 I 361 0 0) 367 a) z f q, R, u2 L 361 13 l, SH, x, 0, 0)) : CT G sX10_digest [aR (some 361)] (m3 I z f q, R, L, SH, x, c, t) Q := by
  refine CT_of ok_X10_digest hG (Nat.le_of_ble_eq_true rfl) ?_
  show X G mX10_digest Q 0 _ [] (m3 I z f q, R, L, SH, x, 0, 0)
  have h0C := hW.2.2.1.1
  refine B_X10_digest_0 ?_
  try dsimp only
  try simp (disch := omega) only [m3_z, m3_f, m3_q, m3_o, u2_m3_z, u2_m3_f, u2_m3_q, u2_m3_o, pr_at, pr_off, u2_pr, u2_at, u2_off, uz_same, uz_ne, Int.reduceToNat, pr_pr]
  refine ⟨sh361, ?_⟩
  try simp (disch := omega) only [m3_z, m3_f, m3_q, m3_o, u2_m3_z, u2_m3_f, u2_m3_q, u2_m3_o, pr_at, pr_off, u2_pr, u2_at, u2_off, uz_same, uz_ne, Int.reduceToNat, pr_pr]
  refine ⟨sh361, ?_⟩
  try simp (disch := omega) only [m3_z, m3_f, m3_q, m3_o, u2_m3_z, u2_m3_f, u2_m3_q, u2_m3_o, pr_at, pr_off, u2_pr, u2_at, u2_off, uz_same, uz_ne, Int.reduceToNat, pr_pr]
  refine ⟨⟨Nat.zero_le _, Nat.zero_le _, Nat.le_of_ble_eq_true rfl⟩, sh361, ?_⟩
  refine C_mixAll hG hR hW (fun f1 q1 => ?_)
  rw [u2_ne (k := 0) _ _ (by omega)]
  refine af_N0 rfl rfl rfl ?_
  try dsimp only
  try simp (disch := omega) only [m3_z, m3_f, m3_q, m3_o, u2_m3_z, u2_m3_f, u2_m3_q, u2_m3_o, pr_at, pr_off, u2_pr, u2_at, u2_off, uz_same, uz_ne, Int.reduceToNat, pr_pr]
  refine B_X10_digest_16 ?_
  try dsimp only
  try simp (disch := omega) only [m3_z, m3_f, m3_q, m3_o, u2_m3_z, u2_m3_f, u2_m3_q, u2_m3_o, pr_at, pr_off, u2_pr, u2_at, u2_off, uz_same, uz_ne, Int.reduceToNat, pr_pr]
  refine ⟨⟨Nat.zero_le _, Nat.zero_le _, Nat.le_of_ble_eq_true rfl⟩, sh361, ?_⟩
  refine C_passed hG hR hW (by omega) (by omega) (fun a3 f3 q3 => ?_)
  refine af_I0 rfl rfl (by decide) ?_
  try dsimp only
  try simp (disch := omega) only [m3_z, m3_f, m3_q, m3_o, u2_m3_z, u2_m3_f, u2_m3_q, u2_m3_o, pr_at, pr_off, u2_pr, u2_at, u2_off, uz_same, uz_ne, Int.reduceToNat, pr_pr]
  refine B_X10_digest_24 ?_
  try dsimp only
  try simp (disch := omega) only [m3_z, m3_f, m3_q, m3_o, u2_m3_z, u2_m3_f, u2_m3_q, u2_m3_o, pr_at, pr_off, u2_pr, u2_at, u2_off, uz_same, uz_ne, Int.reduceToNat, pr_pr]
  refine ⟨⟨Nat.zero_le _, Nat.zero_le _, Nat.le_of_ble_eq_true rfl⟩, sh361, ?_⟩
  refine C_mix hG hR ?_
  refine af_N0 rfl rfl rfl ?_
  try dsimp only
  try simp (disch := omega) only [m3_z, m3_f, m3_q, m3_o, u2_m3_z, u2_m3_f, u2_m3_q, u2_m3_o, pr_at, pr_off, u2_pr, u2_at, u2_off, uz_same, uz_ne, Int.reduceToNat, pr_pr]
  refine B_X10_digest_28 ?_
  try dsimp only
  try simp (disch := omega) only [m3_z, m3_f, m3_q, m3_o, u2_m3_z, u2_m3_f, u2_m3_q, u2_m3_o, pr_at, pr_off, u2_pr, u2_at, u2_off, uz_same, uz_ne, Int.reduceToNat, pr_pr]
  refine ⟨⟨Nat.zero_le _, Nat.zero_le _, Nat.le_of_ble_eq_true rfl⟩, sh361, ?_⟩
  refine C_passed hG hR hW (by omega) (by omega) (fun a4 f4 q4 => ?_)
  rw [pr_pr]
  refine af_I0 rfl rfl (by decide) ?_
  try dsimp only
  try simp (disch := omega) only [m3_z, m3_f, m3_q, m3_o, u2_m3_z, u2_m3_f, u2_m3_q, u2_m3_o, pr_at, pr_off, u2_pr, u2_at, u2_off, uz_same, uz_ne, Int.reduceToNat, pr_pr]
  refine B_X10_digest_36 ?_
  try dsimp only
  try simp (disch := omega) only [m3_z, m3_f, m3_q, m3_o, u2_m3_z, u2_m3_f, u2_m3_q, u2_m3_o, pr_at, pr_off, u2_pr, u2_at, u2_off, uz_same, uz_ne, Int.reduceToNat, pr_pr]
  refine ⟨⟨Nat.zero_le _, Nat.zero_le _, Nat.le_of_ble_eq_true rfl⟩, sh361, ?_⟩
  refine C_mix hG hR ?_
  refine af_N0 rfl rfl rfl ?_
  try dsimp only
  try simp (disch := omega) only [m3_z, m3_f, m3_q, m3_o, u2_m3_z, u2_m3_f, u2_m3_q, u2_m3_o, pr_at, pr_off, u2_pr, u2_at, u2_off, uz_same, uz_ne, Int.reduceToNat, pr_pr]
  refine B_X10_digest_40 ?_
  try dsimp only
  try simp (disch := omega) only [m3_z, m3_f, m3_q, m3_o, u2_m3_z, u2_m3_f, u2_m3_q, u2_m3_o, pr_at, pr_off, u2_pr, u2_at, u2_off, uz_same, uz_ne, Int.reduceToNat, pr_pr]
  refine L_dg1 hG hR hW hm (fun a2 f2 q2 => ?_) 6 6 _ _ _ (by omega)
  refine B_X10_digest_67 ?_
  try dsimp only
  try simp (disch := omega) only [m3_z, m3_f, m3_q, m3_o, u2_m3_z, u2_m3_f, u2_m3_q, u2_m3_o, pr_at, pr_off, u2_pr, u2_at, u2_off, uz_same, uz_ne, Int.reduceToNat, pr_pr]
  refine ⟨⟨Nat.zero_le _, Nat.zero_le _, Nat.le_of_ble_eq_true rfl⟩, sh361, ?_⟩
  refine C_leftNow hG hR (I := m3 _ z f2 q2) hW.1.2.1 hW.1.2.2.1 hW.1.2.2.2.2.2 ?_
  refine af_I0 rfl rfl (by decide) ?_
  try dsimp only
  try simp (disch := omega) only [m3_z, m3_f, m3_q, m3_o, u2_m3_z, u2_m3_f, u2_m3_q, u2_m3_o, pr_at, pr_off, u2_pr, u2_at, u2_off, uz_same, uz_ne, Int.reduceToNat, pr_pr]
  refine B_X10_digest_72 ?_
  try dsimp only
  try simp (disch := omega) only [m3_z, m3_f, m3_q, m3_o, u2_m3_z, u2_m3_f, u2_m3_q, u2_m3_o, pr_at, pr_off, u2_pr, u2_at, u2_off, uz_same, uz_ne, Int.reduceToNat, pr_pr]
  refine ⟨⟨Nat.zero_le _, Nat.zero_le _, Nat.le_of_ble_eq_true rfl⟩, trivial, ?_⟩
  refine C_bits hG (shZr_ok hW.1.2.1 hW.1.2.2.1 hW.1.2.2.2.2.2) ?_
  refine af_I0 rfl rfl (by decide) ?_
  try dsimp only
  try simp (disch := omega) only [m3_z, m3_f, m3_q, m3_o, u2_m3_z, u2_m3_f, u2_m3_q, u2_m3_o, pr_at, pr_off, u2_pr, u2_at, u2_off, uz_same, uz_ne, Int.reduceToNat, pr_pr]
  refine B_X10_digest_75 ?_
  try dsimp only
  try simp (disch := omega) only [m3_z, m3_f, m3_q, m3_o, u2_m3_z, u2_m3_f, u2_m3_q, u2_m3_o, pr_at, pr_off, u2_pr, u2_at, u2_off, uz_same, uz_ne, Int.reduceToNat, pr_pr]
  refine ⟨⟨Nat.zero_le _, Nat.zero_le _, Nat.le_of_ble_eq_true rfl⟩, sh361, ?_⟩
  refine C_mix hG hR ?_
  refine af_N0 rfl rfl rfl ?_
  try dsimp only
  try simp (disch := omega) only [m3_z, m3_f, m3_q, m3_o, u2_m3_z, u2_m3_f, u2_m3_q, u2_m3_o, pr_at, pr_off, u2_pr, u2_at, u2_off, uz_same, uz_ne, Int.reduceToNat, pr_pr]
  refine B_X10_digest_78 ?_
  try dsimp only
  try simp (disch := omega) only [m3_z, m3_f, m3_q, m3_o, u2_m3_z, u2_m3_f, u2_m3_q, u2_m3_o, pr_at, pr_off, u2_pr, u2_at, u2_off, uz_same, uz_ne, Int.reduceToNat, pr_pr]
  refine ⟨sh361, ?_⟩
  refine ⟨⟨Nat.zero_le _, Nat.zero_le _, Nat.le_of_ble_eq_true rfl⟩, sh361, ?_⟩
  refine C_mix hG hR ?_
  refine af_N0 rfl rfl rfl ?_
  try dsimp only
  try simp (disch := omega) only [m3_z, m3_f, m3_q, m3_o, u2_m3_z, u2_m3_f, u2_m3_q, u2_m3_o, pr_at, pr_off, u2_pr, u2_at, u2_off, uz_same, uz_ne, Int.reduceToNat, pr_pr]
  refine B_X10_digest_87 ?_
  try dsimp only
  try simp (disch := omega) only [m3_z, m3_f, m3_q, m3_o, u2_m3_z, u2_m3_f, u2_m3_q, u2_m3_o, pr_at, pr_off, u2_pr, u2_at, u2_off, uz_same, uz_ne, Int.reduceToNat, pr_pr]
  refine L_dg2 hG hR (m := I 361 4) (t := I 364) hl ?_ ?_ (fun l => hQ a2 f2 q2 l) 61 0 (by omega)
  · rw [pr_off _ _ (by decide), u2_off _ _ _ (by decide)]
  · rw [pr_off _ _ (by decide), u2_ne _ _ (by omega)]
