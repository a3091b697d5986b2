/-! ===== the class: a war is written ===== -/
/-- nothing but cell a has changed -/
abbrev only (I J : Nat → Nat → Int) (a : Nat) : Prop := ∀ c : Nat, c ≠ a → J c = I c
theorem only_u2 {I J : Nat → Nat → Int} {a : Nat} (h : only I J a) (k : Nat) (v : Int) : only I (u2 J a k v) a := fun c hc => by rw [u2_off _ _ _ hc]; exact h c hc
theorem D_copyTroop {G : amG} {I : Nat → Nat → Int} {R : Nat → Nat → Option Nat} {L : Nat → Nat → Int64} {x c t : Nat} {Q : amR → amH → Prop} (hG : amG0 G) {a a2 : Nat} (ht : SH[a]? = some (7, 0)) (ht2 : SH[a2]? = some (7, 0)) (hne : a2 ≠ a) (hQ : ∀ J : Nat → Nat → Int, only I J a → (∀ f : Nat, f < 8 → J a f = I a2 f) → Q (Sum.inl none) (J, R, L, SH, x, 0, 0)) : CT G sX7_copyFrom [aR (some a), aR (some a2)] (I, R, L, SH, x, c, t) Q := by
  refine CT_of ok_X7_copyFrom hG (Nat.le_of_ble_eq_true rfl) ?_
  show X G mX7_copyFrom Q 0 _ [] (I, R, L, SH, x, 0, 0)
  refine B_X7_copyFrom_0 ?_
  try dsimp only
  try simp (disch := omega) only [u2_off]
  refine ⟨ht2, ?_⟩
  try simp (disch := omega) only [u2_off]
  refine ⟨ht, ?_⟩
  try simp (disch := omega) only [u2_off]
  refine ⟨ht2, ?_⟩
  try simp (disch := omega) only [u2_off]
  refine ⟨ht, ?_⟩
  try simp (disch := omega) only [u2_off]
  refine ⟨ht2, ?_⟩
  try simp (disch := omega) only [u2_off]
  refine ⟨ht, ?_⟩
  try simp (disch := omega) only [u2_off]
  refine ⟨ht2, ?_⟩
  try simp (disch := omega) only [u2_off]
  refine ⟨ht, ?_⟩
  try simp (disch := omega) only [u2_off]
  refine ⟨ht2, ?_⟩
  try simp (disch := omega) only [u2_off]
  refine ⟨ht, ?_⟩
  try simp (disch := omega) only [u2_off]
  refine ⟨ht2, ?_⟩
  try simp (disch := omega) only [u2_off]
  refine ⟨ht, ?_⟩
  try simp (disch := omega) only [u2_off]
  refine ⟨ht2, ?_⟩
  try simp (disch := omega) only [u2_off]
  refine ⟨ht, ?_⟩
  try simp (disch := omega) only [u2_off]
  refine ⟨ht2, ?_⟩
  try simp (disch := omega) only [u2_off]
  refine ⟨ht, ?_⟩
  try simp (disch := omega) only [u2_off]
  refine ⟨rfl, ?_⟩
  refine hQ _ ?_ (fun f hf => ?_)
  · exact only_u2 (only_u2 (only_u2 (only_u2 (only_u2 (only_u2 (only_u2 (only_u2 (fun c hc => rfl) _ _) _ _) _ _) _ _) _ _) _ _) _ _) _ _
  · rcases (by omega : f = 0 ∨ f = 1 ∨ f = 2 ∨ f = 3 ∨ f = 4 ∨ f = 5 ∨ f = 6 ∨ f = 7) with e | e | e | e | e | e | e | e <;> subst e <;> simp (disch := omega) only [u2_same, u2_ne]
theorem D_muster {G : amG} {I : Nat → Nat → Int} {R : Nat → Nat → Option Nat} {L : Nat → Nat → Int64} {x c t : Nat} {Q : amR → amH → Prop} (hG : amG0 G) {a : Nat} (ht : SH[a]? = some (7, 0)) {s v w : Int} (hQ : ∀ J : Nat → Nat → Int, only I J a → (J a 0 = s ∧ J a 1 = v ∧ J a 2 = w ∧ J a 3 = v ∧ J a 4 = 0 ∧ J a 5 = w ∧ J a 6 = 0 ∧ J a 7 = 0) → Q (Sum.inl none) (J, R, L, SH, x, 0, 0)) : CT G sX7_muster [aR (some a), aI s, aI v, aI w] (I, R, L, SH, x, c, t) Q := by
  refine CT_of ok_X7_muster hG (Nat.le_of_ble_eq_true rfl) ?_
  show X G mX7_muster Q 0 _ [] (I, R, L, SH, x, 0, 0)
  refine B_X7_muster_0 ?_
  try dsimp only
  refine ⟨ht, ?_⟩
  refine ⟨ht, ?_⟩
  refine ⟨ht, ?_⟩
  refine ⟨ht, ?_⟩
  refine ⟨ht, ?_⟩
  refine ⟨ht, ?_⟩
  refine ⟨ht, ?_⟩
  refine ⟨ht, ?_⟩
  refine ⟨rfl, ?_⟩
  refine hQ _ ?_ ?_
  · exact only_u2 (only_u2 (only_u2 (only_u2 (only_u2 (only_u2 (only_u2 (only_u2 (fun c hc => rfl) _ _) _ _) _ _) _ _) _ _) _ _) _ _) _ _
  · simp (disch := omega) only [u2_same, u2_ne, and_self]
theorem D_write {G : amG} {I : Nat → Nat → Int} {R : Nat → Nat → Option Nat} {L : Nat → Nat → Int64} {x c t : Nat} {Q : amR → amH → Prop} (hG : amG0 G) {a : Nat} (ht : SH[a]? = some (3, 0)) {s v w u : Int} (hQ : ∀ J : Nat → Nat → Int, only I J a → (J a 0 = s ∧ J a 1 = v ∧ J a 2 = w ∧ J a 3 = u) → Q (Sum.inl none) (J, R, L, SH, x, 0, 0)) : CT G sX3_write [aR (some a), aI s, aI v, aI w, aI u] (I, R, L, SH, x, c, t) Q := by
  refine CT_of ok_X3_write hG (Nat.le_of_ble_eq_true rfl) ?_
  show X G mX3_write Q 0 _ [] (I, R, L, SH, x, 0, 0)
  refine B_X3_write_0 ?_
  try dsimp only
  refine ⟨ht, ?_⟩
  refine ⟨ht, ?_⟩
  refine ⟨ht, ?_⟩
  refine ⟨ht, ?_⟩
  refine ⟨rfl, ?_⟩
  refine hQ _ ?_ ?_
  · exact only_u2 (only_u2 (only_u2 (only_u2 (fun c hc => rfl) _ _) _ _) _ _) _ _
  · simp (disch := omega) only [u2_same, u2_ne, and_self]
theorem D_copyOrder {G : amG} {I : Nat → Nat → Int} {R : Nat → Nat → Option Nat} {L : Nat → Nat → Int64} {x c t : Nat} {Q : amR → amH → Prop} (hG : amG0 G) {a a2 : Nat} (ht : SH[a]? = some (3, 0)) (ht2 : SH[a2]? = some (3, 0)) (hQ : ∀ J : Nat → Nat → Int, only I J a → (J a 0 = I a2 0 ∧ J a 1 = I a2 1 ∧ J a 2 = I a2 2 ∧ J a 3 = I a2 3) → Q (Sum.inl none) (J, R, L, SH, x, 0, 0)) : CT G sX3_copyFrom [aR (some a), aR (some a2)] (I, R, L, SH, x, c, t) Q := by
  refine CT_of ok_X3_copyFrom hG (Nat.le_of_ble_eq_true rfl) ?_
  show X G mX3_copyFrom Q 0 _ [] (I, R, L, SH, x, 0, 0)
  refine B_X3_copyFrom_0 ?_
  try dsimp only
  refine ⟨ht2, ?_⟩
  refine ⟨ht2, ?_⟩
  refine ⟨ht2, ?_⟩
  refine ⟨ht2, ?_⟩
  refine ⟨⟨Nat.zero_le _, Nat.zero_le _, Nat.le_of_ble_eq_true rfl⟩, ht, ?_⟩
  refine D_write hG ht (fun J j1 j2 => ?_)
  refine af_N0 rfl rfl rfl ?_
  try dsimp only
  refine B_X3_copyFrom_20 ?_
  try dsimp only
  refine ⟨rfl, ?_⟩
  exact hQ J j1 j2
theorem D_copyField {G : amG} {I : Nat → Nat → Int} {R : Nat → Nat → Option Nat} {L : Nat → Nat → Int64} {x c t : Nat} {Q : amR → amH → Prop} (hG : amG0 G) {b d : Nat} (hB : wb b) (hRW : RW R b) (hD : wb d) (hRD : RW R d) (hQ : ∀ J : Nat → Nat → Int, only I J (b + 2) → (∀ j : Nat, j < 96 → J (b + 2) j = I (d + 2) j) → Q (Sum.inl none) (J, R, L, SH, x + 1, 0, 0)) : CT G sX5_copyFrom [aR (some (b + 1)), aR (some (d + 1))] (I, R, L, SH, x, c, t) Q := by
  refine CT_of ok_X5_copyFrom hG (Nat.le_of_ble_eq_true rfl) ?_
  show X G mX5_copyFrom Q 0 _ [] (I, R, L, SH, x, 0, 0)
  refine B_X5_copyFrom_0 ?_
  try dsimp only
  refine ⟨sw1 hD, _, hRD.ht, ?_⟩
  refine ⟨sw1 hB, _, hRW.ht, ?_⟩
  refine ⟨_, _, (by first | exact sw2 hB | exact sw2 hD), (by first | exact sw2 hB | exact sw2 hD), ⟨by omega, by omega, by omega, by omega, by omega, by omega, by omega, Nat.le_of_ble_eq_true rfl⟩, ?_⟩
  refine ⟨rfl, ?_⟩
  refine hQ _ (fun c hc => funext (fun j => ?_)) (fun j hj => ?_)
  · show uCpy _ _ _ _ _ _ c j = _
    unfold uCpy
    rw [if_neg (fun w => hc w.1)]
  · show uCpy _ _ _ _ _ _ (b + 2) j = _
    unfold uCpy
    rw [if_pos ⟨rfl, by omega, by omega⟩]
    congr 1
    omega
theorem L_shareLeft {G : amG} {I : Nat → Nat → Int} {R : Nat → Nat → Option Nat} {L : Nat → Nat → Int64} {x : Nat} {Q : amR → amH → Prop} (hG : amG0 G) {b : Nat} (hB : wb b) (hRW : RW R b) {z : Row} (hW : WV I b z) (hb : wfB z) (hK : X G mX8_shareLeft Q 30 [some (aR (some b)), some (aI (fiN z (z 98).toNat)), some (aI (z 98))] [] (I, R, L, SH, x, 0, 0)) :
    ∀ (n : Nat) (j a : Int), (0 ≤ j ∧ j ≤ z 98 ∧ z 98 - j < n) → a = fiN z j.toNat → X G mX8_shareLeft Q 4 [some (aR (some b)), some (aI a), some (aI j)] [] (I, R, L, SH, x, 0, 0) := by
  intro n
  induction n with
  | zero =>
    intros
    exfalso; omega
  | succ n ih =>
    intro j a h1 ha
    have hn1 := hb.2.1.1
    have hn2 := hb.2.1.2
    have hb1 := wb_le hB
    have hbd := fiN_b hb.2.2.1 j.toNat (by omega)
    have hs : fiN z (j.toNat + 1) = fiN z j.toNat + tf z j.toNat 5 := rfl
    have hT : j < z 98 → 0 ≤ tf z j.toNat 5 ∧ tf z j.toNat 5 ≤ 20 := fun q => by
      have := hb.2.2.1 j.toNat (by omega)
      unfold wfT1 at this
      omega
    refine B_X8_shareLeft_4 ?_
    try dsimp only
    try simp (disch := omega) only [wN hW, wO hW, wTu hW, wGi hW, wMi hW, wL0 hW, wL1 hW, wG0 hW, wG1 hW, wT hW, wH hW, Int.reduceToNat]
    refine ⟨sw0 hB, ?_⟩
    try simp (disch := omega) only [wN hW, wO hW, wTu hW, wGi hW, wMi hW, wL0 hW, wL1 hW, wG0 hW, wG1 hW, wT hW, wH hW, Int.reduceToNat]
    refine ⟨fun c9_0 => ?_, fun c9_0 => ?_⟩
    · have e : j = z 98 := by omega
      rw [e] at ha ⊢
      rw [ha]
      exact hK
    · refine ⟨sw0 hB, _, hRW.tr, ?_⟩
      refine ⟨_, _, sw4 hB, ⟨by decide, by decide⟩, ⟨by omega, by omega⟩, _, hRW.t (by omega), ?_⟩
      refine ⟨swT hB (by omega), ?_⟩
      try simp (disch := omega) only [wN hW, wO hW, wTu hW, wGi hW, wMi hW, wL0 hW, wL1 hW, wG0 hW, wG1 hW, wT hW, wH hW, Int.reduceToNat]
      refine ⟨by (refine ⟨?_, ?_⟩ <;> omega), ?_⟩
      refine ⟨by (refine ⟨?_, ?_⟩ <;> omega), ?_⟩
      refine ih (j + 1) _ (by omega) ?_
      rw [show (j + 1).toNat = j.toNat + 1 by omega, hs]
      omega
theorem D_shareLeft {G : amG} {I : Nat → Nat → Int} {R : Nat → Nat → Option Nat} {L : Nat → Nat → Int64} {x c t : Nat} {Q : amR → amH → Prop} (hG : amG0 G) {b : Nat} (hB : wb b) (hRW : RW R b) {z : Row} (hW : WV I b z) (hb : wfB z) (hQ : Q (Sum.inl (some (aD (shZr z)))) (I, R, L, SH, x, 0, 0)) : CT G sX8_shareLeft [aR (some b)] (I, R, L, SH, x, c, t) Q := by
  refine CT_of ok_X8_shareLeft hG (Nat.le_of_ble_eq_true rfl) ?_
  show X G mX8_shareLeft Q 0 _ [] (I, R, L, SH, x, 0, 0)
  have hn1 := hb.2.1.1
  have hn2 := hb.2.1.2
  have hb1 := wb_le hB
  have hfb := fiN_b hb.2.2.1 (z 98).toNat (by omega)
  have hsf := st_fi hb.2.2.1 hb.2.2.2.2.2 (z 98).toNat (by omega)
  have hs0 := stN_b hb.2.2.1 0 (z 98).toNat (by omega)
  have hs1 := stN_b hb.2.2.1 1 (z 98).toNat (by omega)
  refine B_X8_shareLeft_0 ?_
  try dsimp only
  try simp (disch := omega) only [wN hW, wO hW, wTu hW, wGi hW, wMi hW, wL0 hW, wL1 hW, wG0 hW, wG1 hW, wT hW, wH hW, Int.reduceToNat]
  refine L_shareLeft hG hB hRW hW hb ?_ 13 0 0 (by omega) rfl
  refine B_X8_shareLeft_30 ?_
  try dsimp only
  try simp (disch := omega) only [wN hW, wO hW, wTu hW, wGi hW, wMi hW, wL0 hW, wL1 hW, wG0 hW, wG1 hW, wT hW, wH hW, Int.reduceToNat]
  refine ⟨fun c32_0 => ?_, fun c32_0 => ?_⟩
  · refine B_X8_shareLeft_39 ?_
    try dsimp only
    try simp (disch := omega) only [wN hW, wO hW, wTu hW, wGi hW, wMi hW, wL0 hW, wL1 hW, wG0 hW, wG1 hW, wT hW, wH hW, Int.reduceToNat]
    refine ⟨⟨Nat.zero_le _, Nat.zero_le _, Nat.le_of_ble_eq_true rfl⟩, sw0 hB, ?_⟩
    refine D_strengthOf hG hB hRW hW hb ?_
    refine af_I0 rfl rfl (by decide) ?_
    try dsimp only
    try simp (disch := omega) only [wN hW, wO hW, wTu hW, wGi hW, wMi hW, wL0 hW, wL1 hW, wG0 hW, wG1 hW, wT hW, wH hW, Int.reduceToNat]
    refine B_X8_shareLeft_44 ?_
    try dsimp only
    try simp (disch := omega) only [wN hW, wO hW, wTu hW, wGi hW, wMi hW, wL0 hW, wL1 hW, wG0 hW, wG1 hW, wT hW, wH hW, Int.reduceToNat]
    refine ⟨⟨Nat.zero_le _, Nat.zero_le _, Nat.le_of_ble_eq_true rfl⟩, sw0 hB, ?_⟩
    refine D_strengthOf hG hB hRW hW hb ?_
    refine af_I0 rfl rfl (by decide) ?_
    try dsimp only
    try simp (disch := omega) only [wN hW, wO hW, wTu hW, wGi hW, wMi hW, wL0 hW, wL1 hW, wG0 hW, wG1 hW, wT hW, wH hW, Int.reduceToNat]
    refine B_X8_shareLeft_49 ?_
    try dsimp only
    try simp (disch := omega) only [wN hW, wO hW, wTu hW, wGi hW, wMi hW, wL0 hW, wL1 hW, wG0 hW, wG1 hW, wT hW, wH hW, Int.reduceToNat]
    refine ⟨by (refine ⟨?_, ?_⟩ <;> omega), ?_⟩
    refine ⟨by (have hv := (shD_ok (a := (stN z 0 (z 98).toNat + stN z 1 (z 98).toNat).toNat) (b := (fiN z (z 98).toNat).toNat) (by omega) (by omega) (by omega)).2; unfold shD at hv; rw [Int.toNat_of_nonneg (by omega), Int.toNat_of_nonneg (by omega)] at hv; exact vf_small hv), ?_⟩
    refine B_X8_shareLeft_54 ?_
    try dsimp only
    try simp (disch := omega) only [wN hW, wO hW, wTu hW, wGi hW, wMi hW, wL0 hW, wL1 hW, wG0 hW, wG1 hW, wT hW, wH hW, Int.reduceToNat]
    refine ⟨rfl, ?_⟩
    first
      | (have e : shZr z = FP.dconst1 := by unfold shZr; exact if_pos (by omega)
         rw [e] at hQ
         exact hQ)
      | (have e : shZr z = shD (stN z 0 (z 98).toNat + stN z 1 (z 98).toNat).toNat (fiN z (z 98).toNat).toNat := by unfold shZr; rw [if_neg (by omega)]
         rw [e] at hQ
         unfold shD at hQ
         rw [Int.toNat_of_nonneg (by omega), Int.toNat_of_nonneg (by omega)] at hQ
         exact hQ)
  · refine B_X8_shareLeft_54 ?_
    try dsimp only
    try simp (disch := omega) only [wN hW, wO hW, wTu hW, wGi hW, wMi hW, wL0 hW, wL1 hW, wG0 hW, wG1 hW, wT hW, wH hW, Int.reduceToNat]
    refine ⟨rfl, ?_⟩
    first
      | (have e : shZr z = FP.dconst1 := by unfold shZr; exact if_pos (by omega)
         rw [e] at hQ
         exact hQ)
      | (have e : shZr z = shD (stN z 0 (z 98).toNat + stN z 1 (z 98).toNat).toNat (fiN z (z 98).toNat).toNat := by unfold shZr; rw [if_neg (by omega)]
         rw [e] at hQ
         unfold shD at hQ
         rw [Int.toNat_of_nonneg (by omega), Int.toNat_of_nonneg (by omega)] at hQ
         exact hQ)
