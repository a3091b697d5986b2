/-! ===== the law: shifts and masks, by numbers ===== -/
theorem sh_u1 (x : Int32) : 0 ≤ (x.toUInt32 >>> ((Int32.ofInt (1 : Int)).toUInt32 &&& Int32.toUInt32 31)).toInt32.toInt := by
  have e : ((Int32.ofInt (1 : Int)).toUInt32 &&& Int32.toUInt32 31) = (1 : UInt32) := by decide
  rw [e]
  have h : (x.toUInt32 >>> (1 : UInt32)).toInt32.toBitVec.toNat = x.toUInt32.toNat / 2 := by
    show (x.toUInt32 >>> (1 : UInt32)).toNat = _
    rw [UInt32.toNat_shiftRight]
    show x.toUInt32.toNat >>> 1 = _
    rw [Nat.shiftRight_eq_div_pow]
  have hl := x.toUInt32.toNat_lt
  show 0 ≤ (x.toUInt32 >>> (1 : UInt32)).toInt32.toBitVec.toInt
  rw [BitVec.toInt_eq_toNat_of_lt (by rw [h]; omega), h]
  omega
theorem sh_amt : ∀ n, n < 32 → ((Int32.ofInt ((n : Nat) : Int) &&& 31).toBitVec.smod 32).toNat = n := by decide +kernel
theorem sh_s (x : Int32) {k : Nat} (hk : k < 32) : (x >>> (Int32.ofInt (k : Int) &&& 31)).toInt = x.toInt / 2 ^ k := by
  show (x >>> (Int32.ofInt (k : Int) &&& 31)).toBitVec.toInt = x.toBitVec.toInt / 2 ^ k
  rw [Int32.toBitVec_shiftRight]
  show (x.toBitVec.sshiftRight ((Int32.ofInt (k : Int) &&& 31).toBitVec.smod 32).toNat).toInt = _
  rw [sh_amt k hk, BitVec.toInt_sshiftRight, Int.shiftRight_eq_div_pow]
  rfl
theorem sh_s0 {x : Int} (hx : 0 ≤ x ∧ x ≤ 2147483647) {k : Nat} (hk : k < 32) : 0 ≤ (Int32.ofInt x >>> (Int32.ofInt (k : Int) &&& 31)).toInt ∧ (Int32.ofInt x >>> (Int32.ofInt (k : Int) &&& 31)).toInt ≤ 2147483647 := by
  rw [sh_s _ hk, amI_t ⟨by omega, hx.2⟩]
  have h2 : (0 : Int) < 2 ^ k := Int.pow_pos (by decide)
  exact ⟨Int.ediv_nonneg hx.1 (Int.le_of_lt h2), Int.le_trans (Int.ediv_le_self _ hx.1) hx.2⟩
theorem bv_nat {z : Int} (h : 0 ≤ z ∧ z ≤ 2147483647) : (Int32.ofInt z).toBitVec.toNat = z.toNat := by
  have h1 : (Int32.ofInt z).toBitVec.toInt = z := amI_t ⟨by omega, h.2⟩
  have h2 := BitVec.toInt_eq_toNat_cond (Int32.ofInt z).toBitVec
  have h3 := (Int32.ofInt z).toBitVec.isLt
  split at h2 <;> omega
theorem bv_int {y : Int32} {n : Nat} (h : y.toBitVec.toNat = n) (hn : n < 2147483648) : y.toInt = n := by
  show y.toBitVec.toInt = n
  rw [BitVec.toInt_eq_toNat_of_lt (by omega), h]
theorem an_1 {z : Int} (h : 0 ≤ z ∧ z ≤ 2147483647) : (Int32.ofInt z &&& Int32.ofInt (1 : Int)).toInt = z % 2 := by
  have e : (Int32.ofInt z &&& Int32.ofInt (1 : Int)).toBitVec.toNat = z.toNat % 2 := by
    rw [Int32.toBitVec_and, BitVec.toNat_and, bv_nat h]
    exact Nat.and_one_is_mod _
  rw [bv_int e (by omega)]
  omega
theorem an_m (y : Int32) : 0 ≤ (y &&& Int32.ofInt (2147483647 : Int)).toInt := by
  have e : (y &&& Int32.ofInt (2147483647 : Int)).toBitVec.toNat ≤ 2147483647 := by
    rw [Int32.toBitVec_and, BitVec.toNat_and]
    exact Nat.and_le_right
  rw [bv_int rfl (by omega)]
  omega
theorem sl_1 : ∀ k, k < 12 → (Int32.ofInt (1 : Int) <<< (Int32.ofInt ((k : Nat) : Int) &&& 31)).toBitVec.toNat = 2 ^ k := by decide +kernel
theorem or_b {D k : Nat} (hD : D < 4096) (hk : k < 12) : (Int32.ofInt (D : Int) ||| Int32.ofInt (Int32.ofInt (1 : Int) <<< (Int32.ofInt (k : Int) &&& 31)).toInt).toInt = ((D ||| 2 ^ k : Nat) : Int) ∧ D ||| 2 ^ k < 4096 := by
  have h1 : 2 ^ k < 2 ^ 12 := Nat.pow_lt_pow_right (by decide) hk
  have h2 : D ||| 2 ^ k < 2 ^ 12 := Nat.or_lt_two_pow (by omega) h1
  refine ⟨?_, h2⟩
  rw [amI_of]
  refine bv_int ?_ (by omega)
  rw [Int32.toBitVec_or, BitVec.toNat_or, bv_nat ⟨by omega, by omega⟩, sl_1 k hk, Int.toNat_natCast]
theorem tb_b {D i : Nat} (hD : D < 4096) (hi : i < 12) : (Int32.ofInt (Int32.ofInt (D : Int) >>> (Int32.ofInt (i : Int) &&& 31)).toInt &&& Int32.ofInt (1 : Int)).toInt = (if D.testBit i then 1 else 0) := by
  have h0 := sh_s0 (x := D) ⟨by omega, by omega⟩ (k := i) (by omega)
  rw [an_1 h0, sh_s _ (by omega), amI_t ⟨by omega, by omega⟩, Nat.testBit_eq_decide_div_mod_eq]
  have e : (D : Int) / 2 ^ i = ((D / 2 ^ i : Nat) : Int) := by rw [Int.natCast_ediv, Int.natCast_pow]; rfl
  rw [e]
  by_cases q : D / 2 ^ i % 2 = 1
  · rw [decide_eq_true q, if_pos rfl]; omega
  · rw [decide_eq_false q, if_neg (by decide)]; omega
/-! ===== quotients ===== -/
theorem td_b {a b : Int} : -ab a ≤ Int.tdiv a b ∧ Int.tdiv a b ≤ ab a := by
  have h := Int.natAbs_tdiv a b
  have h2 : (Int.tdiv a b).natAbs ≤ a.natAbs := by rw [h]; exact Nat.div_le_self _ _
  unfold ab
  split <;> omega
theorem td_m {a b : Int} : -(2 * ab a) ≤ Int.tdiv a b * b ∧ Int.tdiv a b * b ≤ 2 * ab a := by
  have h1 := Int.mul_tdiv_add_tmod a b
  rw [Int.mul_comm] at h1
  have h3 : (Int.tmod a b).natAbs = a.natAbs % b.natAbs := Int.natAbs_tmod a b
  have h4 := Nat.mod_le a.natAbs b.natAbs
  unfold ab
  split <;> omega
theorem fl_is {a b : Int} (hb : 1 ≤ b) : (if a < Int.tdiv a b * b then Int.tdiv a b - 1 else Int.tdiv a b) = a / b := by
  have h1 := Int.mul_ediv_add_emod a b
  have h2 := Int.emod_nonneg a (b := b) (by omega)
  have h3 := Int.emod_lt_of_pos a (b := b) (by omega)
  rw [Int.mul_comm] at h1
  rw [Int.tdiv_eq_ediv]
  split
  · rename_i hc
    rw [Int.add_zero]
    rw [if_neg (by omega)]
  · rename_i hc
    rw [Int.sign_eq_one_of_pos (by omega), Int.add_mul, Int.one_mul]
    rw [if_pos (by omega)]
    omega
theorem mulb2 {a b A B : Int} (ha : 0 ≤ a ∧ a ≤ A) (hb : -B ≤ b ∧ b ≤ B) : -(A * B) ≤ a * b ∧ a * b ≤ A * B := by
  rcases Int.le_total 0 b with q | q
  · have := mulb ha ⟨q, hb.2⟩
    omega
  · have := mulb ha (b := -b) (B := B) ⟨by omega, by omega⟩
    rw [Int.mul_neg] at this
    omega
/-! ===== the law: its small methods ===== -/
theorem tdin {y : Int32} {n : Int} (h : 0 ≤ y.toInt) (hn : 1 ≤ n) : amIn (Int.tdiv y.toInt n) := by
  have h1 := amI_in y
  have h2 : 0 ≤ Int.tdiv y.toInt n := Int.tdiv_nonneg h (by omega)
  have h3 : (Int.tdiv y.toInt n).natAbs ≤ y.toInt.natAbs := by rw [Int.natAbs_tdiv]; exact Nat.div_le_self _ _
  exact ⟨by omega, by have := h1.2; omega⟩
theorem K_at {G : amG} {h : amH} {Q : amR → amH → Prop} (hG : amG0 G) {v n : Int} (hv : 0 ≤ v) (hn : 1 ≤ n ∧ n ≤ 100000) (hQ : ∀ r : Int, 0 ≤ r → r < n → Q (Sum.inl (some (aI r))) (hGive h 0 0)) : CT G sL_at [aI v, aI n] h Q := by
  refine CT_of ok_L_at hG (Nat.le_of_ble_eq_true rfl) ?_
  show X G mL_at Q 0 _ [] (h.1, h.2.1, h.2.2.1, h.2.2.2.1, h.2.2.2.2.1, 0, 0)
  have hu := sh_u1 (Int32.ofInt v)
  refine B_L_at_0 ?_
  try dsimp only
  refine ⟨⟨by omega, by exact tdin hu hn.1⟩, ?_⟩
  exact hQ _ (Int.tmod_nonneg _ hu) (Int.tmod_lt_of_pos _ (by omega))
theorem K_big {G : amG} {h : amH} {Q : amR → amH → Prop} (hG : amG0 G) {v : Int} (hv : is8 v) (hQ : Q (Sum.inl (some (aI (bg v)))) (hGive h 0 0)) : CT G sL_big [aI v] h Q := by
  refine CT_of ok_L_big hG (Nat.le_of_ble_eq_true rfl) ?_
  show X G mL_big Q 0 _ [] (h.1, h.2.1, h.2.2.1, h.2.2.2.1, h.2.2.2.2.1, 0, 0)
  unfold is8 at hv
  have td : Int.tdiv v 8 = v / 8 := Int.tdiv_eq_ediv_of_nonneg (by omega)
  have tm : Int.tmod v 8 = v % 8 := Int.tmod_eq_emod_of_nonneg (by omega)
  refine B_L_big_0 ?_
  try dsimp only
  refine ⟨⟨by decide, by (refine ⟨?_, ?_⟩ <;> omega)⟩, ?_⟩
  refine ⟨by (refine ⟨?_, ?_⟩ <;> omega), ?_⟩
  refine ⟨⟨by decide, by (refine ⟨?_, ?_⟩ <;> omega)⟩, ?_⟩
  refine ⟨by (refine ⟨?_, ?_⟩ <;> omega), ?_⟩
  unfold bg at hQ
  try rw [td] 
  try rw [tm]
  exact hQ
theorem K_abs {G : amG} {h : amH} {Q : amR → amH → Prop} (hG : amG0 G) {v : Int} (hv : -100000 ≤ v ∧ v ≤ 100000) (hQ : Q (Sum.inl (some (aI (ab v)))) (hGive h 0 0)) : CT G sL_abs [aI v] h Q := by
  refine CT_of ok_L_abs hG (Nat.le_of_ble_eq_true rfl) ?_
  show X G mL_abs Q 0 _ [] (h.1, h.2.1, h.2.2.1, h.2.2.2.1, h.2.2.2.2.1, 0, 0)
  refine B_L_abs_0 ?_
  try dsimp only
  refine ⟨fun c1_0 => ?_, fun c1_0 => ?_⟩
  · refine B_L_abs_9 ?_
    try dsimp only
    refine B_L_abs_10 ?_
    try dsimp only
    unfold ab at hQ
    first
      | (rw [if_pos (by omega)] at hQ; exact hQ)
      | (rw [if_neg (by omega)] at hQ; exact hQ)
  · refine ⟨by (refine ⟨?_, ?_⟩ <;> omega), ?_⟩
    refine B_L_abs_10 ?_
    try dsimp only
    unfold ab at hQ
    first
      | (rw [if_pos (by omega)] at hQ; exact hQ)
      | (rw [if_neg (by omega)] at hQ; exact hQ)
theorem K_beside {G : amG} {h : amH} {Q : amR → amH → Prop} (hG : amG0 G) {v w : Int} (hv : is8 v) (hw : 0 ≤ w ∧ w < 4) (hQ : ∀ r : Int, r = nb8 v w → Q (Sum.inl (some (aI r))) (hGive h 0 0)) : CT G sL_beside [aI v, aI w] h Q := by
  refine CT_of ok_L_beside hG (Nat.le_of_ble_eq_true rfl) ?_
  show X G mL_beside Q 0 _ [] (h.1, h.2.1, h.2.2.1, h.2.2.2.1, h.2.2.2.2.1, 0, 0)
  unfold is8 at hv
  have td : Int.tdiv v 8 = v / 8 := Int.tdiv_eq_ediv_of_nonneg (by omega)
  have tm : Int.tmod v 8 = v % 8 := Int.tmod_eq_emod_of_nonneg (by omega)
  refine B_L_beside_0 ?_
  try dsimp only
  refine ⟨fun c1_0 => ?_, fun c1_0 => ?_⟩
  · refine B_L_beside_19 ?_
    try dsimp only
    refine ⟨fun c21_1 => ?_, fun c21_1 => ?_⟩
    · refine B_L_beside_41 ?_
      try dsimp only
      refine ⟨fun c43_2 => ?_, fun c43_2 => ?_⟩
      · refine B_L_beside_61 ?_
        try dsimp only
        refine ⟨⟨by decide, by (refine ⟨?_, ?_⟩ <;> omega)⟩, ?_⟩
        refine ⟨fun c65_3 => ?_, fun c65_3 => ?_⟩
        · refine B_L_beside_72 ?_
          try dsimp only
          refine ⟨by (refine ⟨?_, ?_⟩ <;> omega), ?_⟩
          refine B_L_beside_75 ?_
          try dsimp only
          refine hQ _ ?_
          unfold nb8
          split <;> (try split) <;> (try split) <;> (try split) <;> first | omega | (simp_all; done) | (simp_all; omega)
        · refine B_L_beside_75 ?_
          try dsimp only
          refine hQ _ ?_
          unfold nb8
          split <;> (try split) <;> (try split) <;> (try split) <;> first | omega | (simp_all; done) | (simp_all; omega)
      · refine ⟨fun c49_2 => ?_, fun c49_2 => ?_⟩
        · refine B_L_beside_56 ?_
          try dsimp only
          refine ⟨by (refine ⟨?_, ?_⟩ <;> omega), ?_⟩
          refine B_L_beside_60 ?_
          try dsimp only
          refine hQ _ ?_
          unfold nb8
          split <;> (try split) <;> (try split) <;> (try split) <;> first | omega | (simp_all; done) | (simp_all; omega)
        · refine B_L_beside_60 ?_
          try dsimp only
          refine hQ _ ?_
          unfold nb8
          split <;> (try split) <;> (try split) <;> (try split) <;> first | omega | (simp_all; done) | (simp_all; omega)
    · refine ⟨⟨by decide, by (refine ⟨?_, ?_⟩ <;> omega)⟩, ?_⟩
      refine ⟨fun c30_1 => ?_, fun c30_1 => ?_⟩
      · refine B_L_beside_37 ?_
        try dsimp only
        refine ⟨by (refine ⟨?_, ?_⟩ <;> omega), ?_⟩
        refine B_L_beside_40 ?_
        try dsimp only
        refine hQ _ ?_
        unfold nb8
        split <;> (try split) <;> (try split) <;> (try split) <;> first | omega | (simp_all; done) | (simp_all; omega)
      · refine B_L_beside_40 ?_
        try dsimp only
        refine hQ _ ?_
        unfold nb8
        split <;> (try split) <;> (try split) <;> (try split) <;> first | omega | (simp_all; done) | (simp_all; omega)
  · refine ⟨fun c7_0 => ?_, fun c7_0 => ?_⟩
    · refine B_L_beside_14 ?_
      try dsimp only
      refine ⟨by (refine ⟨?_, ?_⟩ <;> omega), ?_⟩
      refine B_L_beside_18 ?_
      try dsimp only
      refine hQ _ ?_
      unfold nb8
      split <;> (try split) <;> (try split) <;> (try split) <;> first | omega | (simp_all; done) | (simp_all; omega)
    · refine B_L_beside_18 ?_
      try dsimp only
      refine hQ _ ?_
      unfold nb8
      split <;> (try split) <;> (try split) <;> (try split) <;> first | omega | (simp_all; done) | (simp_all; omega)
theorem K_step {G : amG} {I : Nat → Nat → Int} {R : Nat → Nat → Option Nat} {L : Nat → Nat → Int64} {S : List (Nat × Nat)} {x c t : Nat} {Q : amR → amH → Prop} (hG : amG0 G) (hA : S[361]? = some (20, 64)) {z : Row} (hE : EH (I 361) z) {v w : Int} (hv : is8 v) (hw : 0 ≤ w ∧ w < 4) (hQ : ∀ r : Int, sp8 z v w r → Q (Sum.inl (some (aI r))) (I, R, L, S, x, 0, 0)) : CT G sL_step [aI v, aI w, aR (some 361)] (I, R, L, S, x, c, t) Q := by
  refine CT_of ok_L_step hG (Nat.le_of_ble_eq_true rfl) ?_
  show X G mL_step Q 0 _ [] (I, R, L, S, x, 0, 0)
  refine B_L_step_0 ?_
  try dsimp only
  refine ⟨⟨Nat.zero_le _, Nat.zero_le _, Nat.le_of_ble_eq_true rfl⟩, trivial, ?_⟩
  refine K_beside hG hv hw (fun r hr => ?_)
  have hs := sp8_of hE hv hw
  rw [← hr] at hs
  refine af_I0 rfl rfl (by decide) ?_
  try dsimp only
  refine B_L_step_5 ?_
  try dsimp only
  refine ⟨fun c7_1 => ?_, fun c7_1 => ?_⟩
  · refine B_L_step_28 ?_
    try dsimp only
    refine B_L_step_29 ?_
    try dsimp only
    refine hQ _ ?_
    first
      | exact (hs.2 (by omega)).2.1 (by omega)
      | exact (hs.2 (by omega)).2.2 (by omega)
      | exact hs.1 (by rcases nb8_nb hv hw with q | q
                       · omega
                       · have := q.1.1; omega)
  · have hv2 := hv
    unfold is8 at hv2
    have hn : r ≠ -1 := by omega
    have h8 := (hs.2 hn).1
    unfold is8 at h8
    have e1 := hE.1 v hv
    have e2 := hE.1 r h8
    refine ⟨_, hA, ⟨by omega, by omega⟩, ?_⟩
    refine ⟨_, hA, ⟨by omega, by omega⟩, ?_⟩
    refine ⟨by (refine ⟨?_, ?_⟩ <;> omega), ?_⟩
    refine ⟨⟨Nat.zero_le _, Nat.zero_le _, Nat.le_of_ble_eq_true rfl⟩, trivial, ?_⟩
    have hv2 := hv
    unfold is8 at hv2
    have h8 := (hs.2 (by omega)).1
    unfold is8 at h8
    have e1 := hE.1 v hv
    have e2 := hE.1 r h8
    refine K_abs hG (by omega) ?_
    refine af_I0 rfl rfl (by decide) ?_
    try dsimp only
    refine B_L_step_20 ?_
    try dsimp only
    refine ⟨fun c21_2 => ?_, fun c21_2 => ?_⟩
    · refine B_L_step_28 ?_
      try dsimp only
      refine B_L_step_29 ?_
      try dsimp only
      refine hQ _ ?_
      first
        | exact (hs.2 (by omega)).2.1 (by omega)
        | exact (hs.2 (by omega)).2.2 (by omega)
        | exact hs.1 (by rcases nb8_nb hv hw with q | q
                         · omega
                         · have := q.1.1; omega)
    · refine B_L_step_29 ?_
      try dsimp only
      refine hQ _ ?_
      first
        | exact (hs.2 (by omega)).2.1 (by omega)
        | exact (hs.2 (by omega)).2.2 (by omega)
        | exact hs.1 (by rcases nb8_nb hv hw with q | q
                         · omega
                         · have := q.1.1; omega)
theorem K_floor {G : amG} {h : amH} {Q : amR → amH → Prop} (hG : amG0 G) {v w : Int} (hv : -1000 ≤ v ∧ v ≤ 1000) (hw : 1 ≤ w ∧ w ≤ 1000) (hQ : Q (Sum.inl (some (aI (v / w)))) (hGive h 0 0)) : CT G sL_floor [aI v, aI w] h Q := by
  refine CT_of ok_L_floor hG (Nat.le_of_ble_eq_true rfl) ?_
  show X G mL_floor Q 0 _ [] (h.1, h.2.1, h.2.2.1, h.2.2.2.1, h.2.2.2.2.1, 0, 0)
  have b1 := td_b (a := v) (b := w)
  have b2 := td_m (a := v) (b := w)
  unfold ab at b1 b2
  refine B_L_floor_0 ?_
  try dsimp only
  refine ⟨⟨by omega, by (refine ⟨?_, ?_⟩ <;> omega)⟩, ?_⟩
  refine ⟨by (refine ⟨?_, ?_⟩ <;> omega), ?_⟩
  refine ⟨fun c8_0 => ?_, fun c8_0 => ?_⟩
  · refine B_L_floor_17 ?_
    try dsimp only
    refine B_L_floor_18 ?_
    try dsimp only
    rw [← fl_is hw.1] at hQ
    first
      | (rw [if_pos (by omega)] at hQ; exact hQ)
      | (rw [if_neg (by omega)] at hQ; exact hQ)
  · refine ⟨by (refine ⟨?_, ?_⟩ <;> omega), ?_⟩
    refine B_L_floor_18 ?_
    try dsimp only
    rw [← fl_is hw.1] at hQ
    first
      | (rw [if_pos (by omega)] at hQ; exact hQ)
      | (rw [if_neg (by omega)] at hQ; exact hQ)
theorem KL_sees {G : amG} {I : Nat → Nat → Int} {R : Nat → Nat → Option Nat} {L : Nat → Nat → Int64} {S : List (Nat × Nat)} {x : Nat} {Q : amR → amH → Prop} (hG : amG0 G) (hA : S[361]? = some (20, 64)) {z : Row} (hE : EH (I 361) z) {v w a b : Int} (ha : is8 a) (hb : is8 b) (hQ : ∀ r : Int, (seeU z (bg a) (bg b) ∧ r = 1) ∨ (¬ seeU z (bg a) (bg b) ∧ r = 0) → Q (Sum.inl (some (aI r))) (I, R, L, S, x, 0, 0)) :
    ∀ (n : Nat) (j : Int) (l9 : Option amV), 1 ≤ j → (nn (bg a) (bg b) + 1 - j < n ∧ j ≤ nn (bg a) (bg b) + 1) → (∀ i : Int, 1 ≤ i → i < j → seeK z (bg a) (bg b) i) → X G mL_sees Q 73 [some (aI v), some (aI w), some (aR (some 361)), some (aI a), some (aI b), some (aI (b % 8 - a % 8)), some (aI (b / 8 - a / 8)), some (aI (nn (bg a) (bg b))), some (aI j), l9] [] (I, R, L, S, x, 0, 0) := by
  intro n
  induction n with
  | zero =>
    intros
    exfalso; omega
  | succ n ih =>
    intro j l9 h0 h1 hs
    have hnb := nn8_b ha hb
    have ea := hE.1 a ha
    have eb := hE.1 b hb
    have ha2 := ha
    have hb2 := hb
    unfold is8 at ha2 hb2
    have td : Int.tdiv a 8 = a / 8 := Int.tdiv_eq_ediv_of_nonneg (by omega)
    have tm : Int.tmod a 8 = a % 8 := Int.tmod_eq_emod_of_nonneg (by omega)
    refine B_L_sees_73 ?_
    try dsimp only
    refine ⟨fun c77_0 => ?_, fun c77_0 => ?_⟩
    · refine B_L_sees_169 ?_
      try dsimp only
      refine ⟨by first | exact Or.inl rfl | exact Or.inr rfl | omega, ?_⟩
      first
        | exact hQ _ (Or.inr ⟨fun q => absurd (hK.mp (q j h0 (by omega))) (by omega), rfl⟩)
        | exact hQ _ (Or.inl ⟨fun k h2 h3 => hs k h2 (by omega), rfl⟩)
    · have hk : 1 ≤ j ∧ j < nn (bg a) (bg b) := ⟨h0, by omega⟩
      have hin := bt8_in ha hb hk
      have hbb := bt8_b ha hb hk
      have hK := seeK8 hE ha hb hk
      have ec := hE.1 _ hin
      unfold is8 at hin
      have m1 := mulb2 (a := 2 * j) (b := b / 8 - a / 8) (A := 14) (B := 7) ⟨by omega, by omega⟩ ⟨by omega, by omega⟩
      have m2 := mulb2 (a := 2 * j) (b := b % 8 - a % 8) (A := 14) (B := 7) ⟨by omega, by omega⟩ ⟨by omega, by omega⟩
      have m3 := mulb (a := I 361 (bt8 a b j).toNat) (b := nn (bg a) (bg b)) (A := 6) (B := 7) ec.2 hnb
      have m4 := mulb (a := I 361 a.toNat + 1) (b := nn (bg a) (bg b) - j) (A := 7) (B := 7) ⟨by omega, by omega⟩ ⟨by omega, by omega⟩
      have m5 := mulb (a := I 361 b.toNat + 1) (b := j) (A := 7) (B := 7) ⟨by omega, by omega⟩ ⟨by omega, by omega⟩
      unfold bt8 at hin hK m3
      rw [td]
      refine ⟨⟨by decide, by (refine ⟨?_, ?_⟩ <;> omega)⟩, ?_⟩
      refine ⟨by (refine ⟨?_, ?_⟩ <;> omega), ?_⟩
      refine ⟨by (refine ⟨?_, ?_⟩ <;> omega), ?_⟩
      refine ⟨by (refine ⟨?_, ?_⟩ <;> omega), ?_⟩
      refine ⟨by (refine ⟨?_, ?_⟩ <;> omega), ?_⟩
      refine ⟨⟨Nat.zero_le _, Nat.zero_le _, Nat.le_of_ble_eq_true rfl⟩, trivial, ?_⟩
      refine K_floor hG (by omega) (by omega) ?_
      refine af_I0 rfl rfl (by decide) ?_
      try dsimp only
      refine B_L_sees_103 ?_
      try dsimp only
      refine ⟨by (refine ⟨?_, ?_⟩ <;> omega), ?_⟩
      refine ⟨by (refine ⟨?_, ?_⟩ <;> omega), ?_⟩
      rw [tm]
      refine ⟨⟨by decide, by (refine ⟨?_, ?_⟩ <;> omega)⟩, ?_⟩
      refine ⟨by (refine ⟨?_, ?_⟩ <;> omega), ?_⟩
      refine ⟨by (refine ⟨?_, ?_⟩ <;> omega), ?_⟩
      refine ⟨by (refine ⟨?_, ?_⟩ <;> omega), ?_⟩
      refine ⟨by (refine ⟨?_, ?_⟩ <;> omega), ?_⟩
      refine ⟨by (refine ⟨?_, ?_⟩ <;> omega), ?_⟩
      refine ⟨⟨Nat.zero_le _, Nat.zero_le _, Nat.le_of_ble_eq_true rfl⟩, trivial, ?_⟩
      refine K_floor hG (by omega) (by omega) ?_
      refine af_I0 rfl rfl (by decide) ?_
      try dsimp only
      refine B_L_sees_127 ?_
      try dsimp only
      refine ⟨by (refine ⟨?_, ?_⟩ <;> omega), ?_⟩
      refine ⟨_, hA, ⟨by omega, by omega⟩, ?_⟩
      refine ⟨by (refine ⟨?_, ?_⟩ <;> omega), ?_⟩
      refine ⟨_, hA, ⟨by omega, by omega⟩, ?_⟩
      refine ⟨by (refine ⟨?_, ?_⟩ <;> omega), ?_⟩
      refine ⟨by (refine ⟨?_, ?_⟩ <;> omega), ?_⟩
      refine ⟨by (refine ⟨?_, ?_⟩ <;> omega), ?_⟩
      refine ⟨_, hA, ⟨by omega, by omega⟩, ?_⟩
      refine ⟨by (refine ⟨?_, ?_⟩ <;> omega), ?_⟩
      refine ⟨by (refine ⟨?_, ?_⟩ <;> omega), ?_⟩
      refine ⟨by (refine ⟨?_, ?_⟩ <;> omega), ?_⟩
      refine ⟨fun c158_2 => ?_, fun c158_2 => ?_⟩
      · refine B_L_sees_163 ?_
        try dsimp only
        refine ⟨by (refine ⟨?_, ?_⟩ <;> omega), ?_⟩
        refine ih (j + 1) _ (by omega) (by omega) (fun i h2 h3 => ?_)
        by_cases e : i = j
        · rw [e]; exact hK.mpr (by omega)
        · exact hs i h2 (by omega)
      · refine ⟨by first | exact Or.inl rfl | exact Or.inr rfl | omega, ?_⟩
        first
          | exact hQ _ (Or.inr ⟨fun q => absurd (hK.mp (q j h0 (by omega))) (by omega), rfl⟩)
          | exact hQ _ (Or.inl ⟨fun k h2 h3 => hs k h2 (by omega), rfl⟩)
theorem K_sees10 {G : amG} {I : Nat → Nat → Int} {R : Nat → Nat → Option Nat} {L : Nat → Nat → Int64} {S : List (Nat × Nat)} {x : Nat} {Q : amR → amH → Prop} (hG : amG0 G) (hA : S[361]? = some (20, 64)) {z : Row} (hE : EH (I 361) z) {v w a b : Int} (ha : is8 a) (hb : is8 b) (eb : v + w - a = b) (hvw : is8 v ∧ is8 w) (hQ : ∀ r : Int, (seeU z (bg a) (bg b) ∧ r = 1) ∨ (¬ seeU z (bg a) (bg b) ∧ r = 0) → Q (Sum.inl (some (aI r))) (I, R, L, S, x, 0, 0)) : X G mL_sees Q 10 [some (aI v), some (aI w), some (aR (some 361)), none, none, none, none, none, none, none] [aI a] (I, R, L, S, x, 0, 0) := by
  have hnb := nn8_b ha hb
  have ha2 := ha
  have hb2 := hb
  unfold is8 at ha2 hb2 hvw
  have td1 : Int.tdiv a 8 = a / 8 := Int.tdiv_eq_ediv_of_nonneg (by omega)
  have tm1 : Int.tmod a 8 = a % 8 := Int.tmod_eq_emod_of_nonneg (by omega)
  have td2 : Int.tdiv b 8 = b / 8 := Int.tdiv_eq_ediv_of_nonneg (by omega)
  have tm2 : Int.tmod b 8 = b % 8 := Int.tmod_eq_emod_of_nonneg (by omega)
  refine B_L_sees_10 ?_
  try dsimp only
  try simp only [td1, td2, tm1, tm2, eb]
  refine ⟨by (refine ⟨?_, ?_⟩ <;> omega), ?_⟩
  refine ⟨by (refine ⟨?_, ?_⟩ <;> omega), ?_⟩
  refine ⟨⟨by decide, by (refine ⟨?_, ?_⟩ <;> omega)⟩, ?_⟩
  refine ⟨⟨by decide, by (refine ⟨?_, ?_⟩ <;> omega)⟩, ?_⟩
  refine ⟨by (refine ⟨?_, ?_⟩ <;> omega), ?_⟩
  refine ⟨⟨by decide, by (refine ⟨?_, ?_⟩ <;> omega)⟩, ?_⟩
  refine ⟨⟨by decide, by (refine ⟨?_, ?_⟩ <;> omega)⟩, ?_⟩
  refine ⟨by (refine ⟨?_, ?_⟩ <;> omega), ?_⟩
  refine ⟨⟨Nat.zero_le _, Nat.zero_le _, Nat.le_of_ble_eq_true rfl⟩, trivial, ?_⟩
  refine K_abs hG (by omega) ?_
  refine af_I0 rfl rfl (by decide) ?_
  try dsimp only
  try simp only [td1, td2, tm1, tm2, eb]
  refine B_L_sees_47 ?_
  try dsimp only
  try simp only [td1, td2, tm1, tm2, eb]
  refine ⟨⟨Nat.zero_le _, Nat.zero_le _, Nat.le_of_ble_eq_true rfl⟩, trivial, ?_⟩
  refine K_abs hG (by omega) ?_
  refine af_I0 rfl rfl (by decide) ?_
  try dsimp only
  try simp only [td1, td2, tm1, tm2, eb]
  refine B_L_sees_52 ?_
  try dsimp only
  try simp only [td1, td2, tm1, tm2, eb]
  refine ⟨fun c52_2 => ?_, fun c52_2 => ?_⟩
  · refine B_L_sees_63 ?_
    try dsimp only
    try simp only [td1, td2, tm1, tm2, eb]
    refine ⟨⟨Nat.zero_le _, Nat.zero_le _, Nat.le_of_ble_eq_true rfl⟩, trivial, ?_⟩
    refine K_abs hG (by omega) ?_
    refine af_I0 rfl rfl (by decide) ?_
    try dsimp only
    try simp only [td1, td2, tm1, tm2, eb]
    refine B_L_sees_68 ?_
    try dsimp only
    try simp only [td1, td2, tm1, tm2, eb]
    have e : nn (bg a) (bg b) = _ := nn8 ha hb
    first
      | (rw [if_pos (by omega)] at e; rw [← e]; exact KL_sees hG hA hE ha hb hQ 9 1 none (by decide) (by omega) (fun i h2 h3 => by omega))
      | (rw [if_neg (by omega)] at e; rw [← e]; exact KL_sees hG hA hE ha hb hQ 9 1 none (by decide) (by omega) (fun i h2 h3 => by omega))
  · refine ⟨⟨Nat.zero_le _, Nat.zero_le _, Nat.le_of_ble_eq_true rfl⟩, trivial, ?_⟩
    refine K_abs hG (by omega) ?_
    refine af_I0 rfl rfl (by decide) ?_
    try dsimp only
    try simp only [td1, td2, tm1, tm2, eb]
    refine B_L_sees_60 ?_
    try dsimp only
    try simp only [td1, td2, tm1, tm2, eb]
    refine B_L_sees_68 ?_
    try dsimp only
    try simp only [td1, td2, tm1, tm2, eb]
    have e : nn (bg a) (bg b) = _ := nn8 ha hb
    first
      | (rw [if_pos (by omega)] at e; rw [← e]; exact KL_sees hG hA hE ha hb hQ 9 1 none (by decide) (by omega) (fun i h2 h3 => by omega))
      | (rw [if_neg (by omega)] at e; rw [← e]; exact KL_sees hG hA hE ha hb hQ 9 1 none (by decide) (by omega) (fun i h2 h3 => by omega))
theorem K_sees {G : amG} {I : Nat → Nat → Int} {R : Nat → Nat → Option Nat} {L : Nat → Nat → Int64} {S : List (Nat × Nat)} {x c t : Nat} {Q : amR → amH → Prop} (hG : amG0 G) (hA : S[361]? = some (20, 64)) {z : Row} (hE : EH (I 361) z) {v w : Int} (hv : is8 v) (hw : is8 w) (hQ : ∀ r : Int, (seeU z (bg v) (bg w) ∧ r = 1) ∨ (¬ seeU z (bg v) (bg w) ∧ r = 0) → Q (Sum.inl (some (aI r))) (I, R, L, S, x, 0, 0)) : CT G sL_sees [aI v, aI w, aR (some 361)] (I, R, L, S, x, c, t) Q := by
  refine CT_of ok_L_sees hG (Nat.le_of_ble_eq_true rfl) ?_
  show X G mL_sees Q 0 _ [] (I, R, L, S, x, 0, 0)
  refine B_L_sees_0 ?_
  try dsimp only
  refine ⟨fun c2_0 => ?_, fun c2_0 => ?_⟩
  · refine B_L_sees_9 ?_
    try dsimp only
    first
      | exact K_sees10 hG hA hE hv hw (by omega) ⟨hv, hw⟩ hQ
      | exact K_sees10 hG hA hE hw hv (by omega) ⟨hv, hw⟩ (fun r hr => hQ r (by rw [seeU_sym (a := bg v)]; exact hr))
  · first
      | exact K_sees10 hG hA hE hv hw (by omega) ⟨hv, hw⟩ hQ
      | exact K_sees10 hG hA hE hw hv (by omega) ⟨hv, hw⟩ (fun r hr => hQ r (by rw [seeU_sym (a := bg v)]; exact hr))
