/-! ===== the model: the strength left, bits, sums for the digest ===== -/
def fiN (z : Row) : Nat → Int := sumN (fun k => tf z k 5)
theorem fiN_b {z : Row} (ht : wfT z) (n : Nat) (hn : (n : Int) ≤ z 98) : 0 ≤ fiN z n ∧ fiN z n ≤ 20 * n := sumN_b n (fun k hk => by
  have := ht k (by omega)
  unfold wfT1 at this
  show 0 ≤ tf z k 5 ∧ tf z k 5 ≤ 20
  omega)
theorem st_fi {z : Row} (ht : wfT z) (hs : wfS z) : ∀ n : Nat, (n : Int) ≤ z 98 → stN z 0 n + stN z 1 n ≤ fiN z n := by
  intro n
  induction n with
  | zero => intro _; exact Int.le_refl _
  | succ n ih =>
    intro hn
    have := ih (by omega)
    have h1 := ht n (by omega)
    have h2 := (hs n (by omega)).2
    unfold wfT1 at h1
    have a : stN z 0 (n + 1) = stN z 0 n + (if tf z n 0 = 0 then tf z n 2 else 0) := rfl
    have b : stN z 1 (n + 1) = stN z 1 n + (if tf z n 0 = 1 then tf z n 2 else 0) := rfl
    have c : fiN z (n + 1) = fiN z n + tf z n 5 := rfl
    rw [a, b, c]
    split <;> split <;> omega
/-- the share that is left -/
def shZr (z : Row) : UInt64 := if fiN z (z 98).toNat = 0 then FP.dconst1 else shD (stN z 0 (z 98).toNat + stN z 1 (z 98).toNat).toNat (fiN z (z 98).toNat).toNat
theorem shZr_ok {z : Row} (hn : wfN z) (ht : wfT z) (hs : wfS z) : (shZr z).toNat ≤ 4607182418800017408 := by
  have h1 := fiN_b ht (z 98).toNat (by have := hn.1; omega)
  have h2 := st_fi ht hs (z 98).toNat (by have := hn.1; omega)
  have h3 := stN_b ht 0 (z 98).toNat (by have := hn.1; omega)
  have h4 := stN_b ht 1 (z 98).toNat (by have := hn.1; omega)
  have hn2 := hn.2
  unfold shZr
  split
  · decide
  · exact (shD_ok (by omega) (by omega) (by omega)).2
def mx (h v : Int64) : Int64 := Int64.ofNat 31 * h + v
def mxN (f : Nat → Int) (h : Int64) : Nat → Int64
  | 0 => h
  | n + 1 => mx (mxN f h n) (Int64.ofInt (f n))
theorem mxN_s (f : Nat → Int) (h : Int64) (n : Nat) : mxN f h (n + 1) = mx (mxN f h n) (Int64.ofInt (f n)) := rfl
theorem u2_u2L {α : Type} (f : Nat → Nat → α) (a k : Nat) (v w : α) : u2 (u2 f a k v) a k w = u2 f a k w := funext (fun b => funext (fun j => by
  unfold u2
  split <;> rfl))
theorem L_leftNow {G : amG} {I : Nat → Nat → Int} {R : Nat → Nat → Option Nat} {L : Nat → Nat → Int64} {x : Nat} {Q : amR → amH → Prop} (hG : amG0 G) (hR : RM R) (hn : wfN (I 362)) (ht : wfT (I 362)) (hK : X G mX10_leftNow Q 30 [some (aR (some 361)), some (aI (fiN (I 362) (I 362 98).toNat)), some (aI (I 362 98))] [] (I, R, L, SH, x, 0, 0)) :
    ∀ (n : Nat) (j a : Int), (0 ≤ j ∧ j ≤ I 362 98 ∧ I 362 98 - j < n) → a = fiN (I 362) j.toNat → X G mX10_leftNow Q 4 [some (aR (some 361)), some (aI a), some (aI j)] [] (I, R, L, SH, x, 0, 0) := by
  intro n
  induction n with
  | zero =>
    intros
    exfalso; omega
  | succ n ih =>
    intro j a h1 ha
    have hn2 := hn.2
    have hb := fiN_b ht j.toNat (by omega)
    have hs : fiN (I 362) (j.toNat + 1) = fiN (I 362) j.toNat + tf (I 362) j.toNat 5 := rfl
    refine B_X10_leftNow_4 ?_
    try dsimp only
    refine ⟨sh361, _, hR.z, ?_⟩
    refine ⟨_, sh362, ⟨by omega, by omega⟩, ?_⟩
    refine ⟨fun c12_0 => ?_, fun c12_0 => ?_⟩
    · have e : j = I 362 98 := by omega
      rw [e] at ha ⊢
      rw [ha]
      exact hK
    · refine ⟨⟨Nat.zero_le _, Nat.zero_le _, Nat.le_of_ble_eq_true rfl⟩, sh361, ?_⟩
      refine C_of hG hR (by omega) (by decide) (fun r hr => ?_)
      have hr : r = tf (I 362) j.toNat 5 := hr
      have hT := ht j.toNat (by omega)
      unfold wfT1 at hT
      refine af_I0 rfl rfl (by decide) ?_
      try dsimp only
      refine B_X10_leftNow_22 ?_
      try dsimp only
      refine ⟨by (refine ⟨?_, ?_⟩ <;> omega), ?_⟩
      refine ⟨by (refine ⟨?_, ?_⟩ <;> omega), ?_⟩
      refine ih (j + 1) _ (by omega) ?_
      rw [show (j + 1).toNat = j.toNat + 1 by omega, hs]
      omega
theorem C_leftNow {G : amG} {I : Nat → Nat → Int} {R : Nat → Nat → Option Nat} {L : Nat → Nat → Int64} {x c t : Nat} {Q : amR → amH → Prop} (hG : amG0 G) (hR : RM R) (hn : wfN (I 362)) (ht : wfT (I 362)) (hs : wfS (I 362)) (hQ : Q (Sum.inl (some (aD (shZr (I 362))))) (I, R, L, SH, x, 0, 0)) : CT G sX10_leftNow [aR (some 361)] (I, R, L, SH, x, c, t) Q := by
  refine CT_of ok_X10_leftNow hG (Nat.le_of_ble_eq_true rfl) ?_
  show X G mX10_leftNow Q 0 _ [] (I, R, L, SH, x, 0, 0)
  have hn1 := hn.1
  have hn2 := hn.2
  have hfb := fiN_b ht (I 362 98).toNat (by omega)
  have hsf := st_fi ht hs (I 362 98).toNat (by omega)
  have hs0 := stN_b ht 0 (I 362 98).toNat (by omega)
  have hs1 := stN_b ht 1 (I 362 98).toNat (by omega)
  refine B_X10_leftNow_0 ?_
  try dsimp only
  refine L_leftNow hG hR hn ht ?_ 13 0 0 (by omega) rfl
  refine B_X10_leftNow_30 ?_
  try dsimp only
  refine ⟨fun c31_0 => ?_, fun c31_0 => ?_⟩
  · refine B_X10_leftNow_38 ?_
    try dsimp only
    refine ⟨⟨Nat.zero_le _, Nat.zero_le _, Nat.le_of_ble_eq_true rfl⟩, sh361, ?_⟩
    refine C_strengthOf hG hR hn ht (fun r1 hr1 => ?_)
    refine af_I0 rfl rfl (by decide) ?_
    try dsimp only
    refine B_X10_leftNow_44 ?_
    try dsimp only
    refine ⟨⟨Nat.zero_le _, Nat.zero_le _, Nat.le_of_ble_eq_true rfl⟩, sh361, ?_⟩
    refine C_strengthOf hG hR hn ht (fun r2 hr2 => ?_)
    refine af_I0 rfl rfl (by decide) ?_
    try dsimp only
    refine B_X10_leftNow_49 ?_
    try dsimp only
    refine ⟨by (refine ⟨?_, ?_⟩ <;> omega), ?_⟩
    refine ⟨by (have hm := (mul1 (a := (r1 + r2).toNat) (by omega)); rw [Int.toNat_of_nonneg (by omega)] at hm; rw [hm.1]; exact hm.2), ?_⟩
    refine ⟨by (have hm := (mul1 (a := (r1 + r2).toNat) (by omega)); rw [Int.toNat_of_nonneg (by omega)] at hm; have hv := (shD_ok (a := (r1 + r2).toNat) (b := (fiN (I 362) (I 362 98).toNat).toNat) (by omega) (by omega) (by omega)).2; unfold shD at hv; rw [Int.toNat_of_nonneg (by omega), Int.toNat_of_nonneg (by omega)] at hv; rw [hm.1]; exact vf_small hv), ?_⟩
    refine B_X10_leftNow_55 ?_
    try dsimp only
    refine ⟨rfl, ?_⟩
    have e : shZr (I 362) = shD (r1 + r2).toNat (fiN (I 362) (I 362 98).toNat).toNat := by unfold shZr; rw [if_neg (by omega), hr1, hr2]
    have hm := (mul1 (a := (r1 + r2).toNat) (by omega)).1
    rw [Int.toNat_of_nonneg (by omega)] at hm
    rw [e] at hQ
    unfold shD at hQ
    rw [Int.toNat_of_nonneg (by omega), Int.toNat_of_nonneg (by omega)] at hQ
    rw [hm]
    exact hQ
  · refine B_X10_leftNow_55 ?_
    try dsimp only
    refine ⟨rfl, ?_⟩
    have e : shZr (I 362) = FP.dconst1 := by unfold shZr; exact if_pos (by omega)
    rw [e] at hQ
    exact hQ
theorem C_strengthLeft {G : amG} {I : Nat → Nat → Int} {z f q : Row} {R : Nat → Nat → Option Nat} {L : Nat → Nat → Int64} {x c t : Nat} {Q : amR → amH → Prop} (hG : amG0 G) (hR : RM R) (hn : wfN z) (ht : wfT z) (hs : wfS z) (hQ : Q (Sum.inl (some (aD (shZr z)))) (m3 (u2 I 361 0 0) z f q, R, L, SH, x, 0, 0)) : CT G sX10_strengthLeft [aR (some 361)] (m3 I z f q, R, L, SH, x, c, t) Q := by
  refine CT_of ok_X10_strengthLeft hG (Nat.le_of_ble_eq_true rfl) ?_
  show X G mX10_strengthLeft Q 0 _ [] (m3 I z f q, R, L, SH, x, 0, 0)
  refine B_X10_strengthLeft_0 ?_
  try dsimp only
  try simp (disch := omega) only [m3_z, m3_f, m3_q, m3_o, u2_m3_z, u2_m3_f, u2_m3_q, u2_m3_o, pr_at, pr_off, u2_pr, u2_at, u2_off, uz_same, uz_ne, Int.reduceToNat]
  refine ⟨sh361, ?_⟩
  try simp (disch := omega) only [m3_z, m3_f, m3_q, m3_o, u2_m3_z, u2_m3_f, u2_m3_q, u2_m3_o, pr_at, pr_off, u2_pr, u2_at, u2_off, uz_same, uz_ne, Int.reduceToNat]
  refine ⟨⟨Nat.zero_le _, Nat.zero_le _, Nat.le_of_ble_eq_true rfl⟩, sh361, ?_⟩
  refine C_leftNow hG hR (I := m3 _ z f q) hn ht hs ?_
  refine af_I0 rfl rfl (by decide) ?_
  try dsimp only
  try simp (disch := omega) only [m3_z, m3_f, m3_q, m3_o, u2_m3_z, u2_m3_f, u2_m3_q, u2_m3_o, pr_at, pr_off, u2_pr, u2_at, u2_off, uz_same, uz_ne, Int.reduceToNat]
  refine B_X10_strengthLeft_9 ?_
  try dsimp only
  try simp (disch := omega) only [m3_z, m3_f, m3_q, m3_o, u2_m3_z, u2_m3_f, u2_m3_q, u2_m3_o, pr_at, pr_off, u2_pr, u2_at, u2_off, uz_same, uz_ne, Int.reduceToNat]
  refine ⟨rfl, ?_⟩
  exact hQ
theorem C_isNaN {G : amG} {h : amH} {Q : amR → amH → Prop} (hG : amG0 G) {v : UInt64} (hv : v.toNat ≤ 4607182418800017408) (hQ : Q (Sum.inl (some (aI 0))) (hGive h 0 0)) : CT G sJxe99ae_isNaN_b9ae7 [aD v] h Q := by
  refine CT_of ok_Jxe99ae_isNaN_b9ae7 hG (Nat.le_of_ble_eq_true rfl) ?_
  show X G mJxe99ae_isNaN_b9ae7 Q 0 _ [] (h.1, h.2.1, h.2.2.1, h.2.2.2.1, h.2.2.2.2.1, 0, 0)
  refine B_Jxe99ae_isNaN_b9ae7_0 ?_
  try dsimp only
  rw [cmp_self hv, show (Op.cmpValue (some Ordering.eq) .l).toInt = 0 by decide]
  refine ⟨fun c3_0 => ?_, fun c3_0 => ?_⟩
  · refine B_Jxe99ae_isNaN_b9ae7_10 ?_
    try dsimp only
    refine B_Jxe99ae_isNaN_b9ae7_11 ?_
    try dsimp only
    refine ⟨by first | exact Or.inl rfl | exact Or.inr rfl | exact Or.inl trivial | exact Or.inr trivial | omega, ?_⟩
    first
      | exact hQ
      | exact absurd rfl (by assumption)
      | (exfalso; omega)
  · first
      | (exfalso; omega)
      | exact absurd True.intro (by assumption)
      | (refine B_Jxe99ae_isNaN_b9ae7_11 ?_
         try dsimp only
         refine ⟨by first | exact Or.inl rfl | exact Or.inr rfl | exact Or.inl trivial | exact Or.inr trivial | omega, ?_⟩
         first
           | exact hQ
           | exact absurd rfl (by assumption)
           | (exfalso; omega))
theorem C_bits {G : amG} {h : amH} {Q : amR → amH → Prop} (hG : amG0 G) {v : UInt64} (hv : v.toNat ≤ 4607182418800017408) (hQ : Q (Sum.inl (some (aL v.toInt64))) (hGive h 0 0)) : CT G sJxe99ae_doubleToLongBits_ccdee [aD v] h Q := by
  refine CT_of ok_Jxe99ae_doubleToLongBits_ccdee hG (Nat.le_of_ble_eq_true rfl) ?_
  show X G mJxe99ae_doubleToLongBits_ccdee Q 0 _ [] (h.1, h.2.1, h.2.2.1, h.2.2.2.1, h.2.2.2.2.1, 0, 0)
  refine B_Jxe99ae_doubleToLongBits_ccdee_0 ?_
  try dsimp only
  refine ⟨⟨Nat.zero_le _, Nat.zero_le _, Nat.le_of_ble_eq_true rfl⟩, trivial, ?_⟩
  refine C_isNaN hG hv ?_
  refine af_I0 rfl rfl (by decide) ?_
  try dsimp only
  refine B_Jxe99ae_doubleToLongBits_ccdee_4 ?_
  try dsimp only
  refine ⟨fun c4_1 => ?_, fun c4_1 => ?_⟩
  · refine B_Jxe99ae_doubleToLongBits_ccdee_12 ?_
    try dsimp only
    refine ⟨rfl, ?_⟩
    first
      | exact hQ
      | exact absurd rfl (by assumption)
  · refine ⟨Nat.le_of_ble_eq_true rfl, ?_⟩
    refine ⟨rfl, ?_⟩
    first
      | exact hQ
      | exact absurd rfl (by assumption)
theorem C_mix {G : amG} {I : Nat → Nat → Int} {z f q : Row} {R : Nat → Nat → Option Nat} {L : Nat → Nat → Int64} {x c t : Nat} {Q : amR → amH → Prop} (hG : amG0 G) (hR : RM R) {h v : Int64} (hQ : Q (Sum.inl none) (m3 I z f q, R, u2 L 361 13 (mx h v), SH, x, 0, 0)) : CT G sX10_mix [aR (some 361), aL v] (m3 I z f q, R, u2 L 361 13 (h), SH, x, c, t) Q := by
  refine CT_of ok_X10_mix hG (Nat.le_of_ble_eq_true rfl) ?_
  show X G mX10_mix Q 0 _ [] (m3 I z f q, R, u2 L 361 13 (h), SH, x, 0, 0)
  refine B_X10_mix_0 ?_
  try dsimp only
  refine ⟨sh361, ?_⟩
  refine ⟨sh361, ?_⟩
  refine ⟨rfl, ?_⟩
  rw [u2_same, u2_u2L]
  exact hQ
