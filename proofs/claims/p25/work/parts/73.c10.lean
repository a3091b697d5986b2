variable {sT : List (Nat × Nat)}
/-! ===== the class: a war is written ===== -/
/-- nothing but cell a has changed -/
abbrev only (I J : Nat → Nat → Int) (a : Nat) : Prop := ∀ c : Nat, c ≠ a → J c = I c
theorem only_u2 {I J : Nat → Nat → Int} {a : Nat} (h : only I J a) (k : Nat) (v : Int) : only I (u2 J a k v) a := fun c hc => by rw [u2_off _ _ _ hc]; exact h c hc
theorem D_copyTroop {G : amG} {I : Nat → Nat → Int} {R : Nat → Nat → Option Nat} {L : Nat → Nat → Int64} {x c t : Nat} {Q : amR → amH → Prop} (hG : amG0 G) {a a2 : Nat} (ht : (SH sT)[a]? = some (7, 0)) (ht2 : (SH sT)[a2]? = some (7, 0)) (hne : a2 ≠ a) (hQ : ∀ J : Nat → Nat → Int, only I J a → (∀ f : Nat, f < 8 → J a f = I a2 f) → Q (Sum.inl none) (J, R, L, (SH sT), x, 0, 0)) : CT G sX7_copyFrom [aR (some a), aR (some a2)] (I, R, L, (SH sT), x, c, t) Q := by
  refine CT_of ok_X7_copyFrom hG (Nat.le_of_ble_eq_true rfl) ?_
  show X G mX7_copyFrom Q 0 _ [] (I, R, L, (SH sT), x, 0, 0)
  refine B_X7_copyFrom_0 ?_
  try dsimp only
  try simp (disch := omega) only [u2_off]
  refine ⟨ht2, ?_⟩
  try simp (disch := omega) only [u2_off]
  refine ⟨ht, ?_⟩
  try simp (disch := omega) only [u2_off]
  refine ⟨ht2, ?_⟩
  try simp (disch := omega) only [u2_off]
  refine ⟨ht, ?_⟩
  try simp (disch := omega) only [u2_off]
  refine ⟨ht2, ?_⟩
  try simp (disch := omega) only [u2_off]
  refine ⟨ht, ?_⟩
  try simp (disch := omega) only [u2_off]
  refine ⟨ht2, ?_⟩
  try simp (disch := omega) only [u2_off]
  refine ⟨ht, ?_⟩
  try simp (disch := omega) only [u2_off]
  refine ⟨ht2, ?_⟩
  try simp (disch := omega) only [u2_off]
  refine ⟨ht, ?_⟩
  try simp (disch := omega) only [u2_off]
  refine ⟨ht2, ?_⟩
  try simp (disch := omega) only [u2_off]
  refine ⟨ht, ?_⟩
  try simp (disch := omega) only [u2_off]
  refine ⟨ht2, ?_⟩
  try simp (disch := omega) only [u2_off]
  refine ⟨ht, ?_⟩
  try simp (disch := omega) only [u2_off]
  refine ⟨ht2, ?_⟩
  try simp (disch := omega) only [u2_off]
  refine ⟨ht, ?_⟩
  try simp (disch := omega) only [u2_off]
  refine ⟨rfl, ?_⟩
  refine hQ _ ?_ (fun f hf => ?_)
  · exact only_u2 (only_u2 (only_u2 (only_u2 (only_u2 (only_u2 (only_u2 (only_u2 (fun c hc => rfl) _ _) _ _) _ _) _ _) _ _) _ _) _ _) _ _
  · rcases (by omega : f = 0 ∨ f = 1 ∨ f = 2 ∨ f = 3 ∨ f = 4 ∨ f = 5 ∨ f = 6 ∨ f = 7) with e | e | e | e | e | e | e | e <;> subst e <;> simp (disch := omega) only [u2_same, u2_ne]
theorem D_muster {G : amG} {I : Nat → Nat → Int} {R : Nat → Nat → Option Nat} {L : Nat → Nat → Int64} {x c t : Nat} {Q : amR → amH → Prop} (hG : amG0 G) {a : Nat} (ht : (SH sT)[a]? = some (7, 0)) {s v w : Int} (hQ : ∀ J : Nat → Nat → Int, only I J a → (J a 0 = s ∧ J a 1 = v ∧ J a 2 = w ∧ J a 3 = v ∧ J a 4 = 0 ∧ J a 5 = w ∧ J a 6 = 0 ∧ J a 7 = 0) → Q (Sum.inl none) (J, R, L, (SH sT), x, 0, 0)) : CT G sX7_muster [aR (some a), aI s, aI v, aI w] (I, R, L, (SH sT), x, c, t) Q := by
  refine CT_of ok_X7_muster hG (Nat.le_of_ble_eq_true rfl) ?_
  show X G mX7_muster Q 0 _ [] (I, R, L, (SH sT), x, 0, 0)
  refine B_X7_muster_0 ?_
  try dsimp only
  refine ⟨ht, ?_⟩
  refine ⟨ht, ?_⟩
  refine ⟨ht, ?_⟩
  refine ⟨ht, ?_⟩
  refine ⟨ht, ?_⟩
  refine ⟨ht, ?_⟩
  refine ⟨ht, ?_⟩
  refine ⟨ht, ?_⟩
  refine ⟨rfl, ?_⟩
  refine hQ _ ?_ ?_
  · exact only_u2 (only_u2 (only_u2 (only_u2 (only_u2 (only_u2 (only_u2 (only_u2 (fun c hc => rfl) _ _) _ _) _ _) _ _) _ _) _ _) _ _) _ _
  · simp (disch := omega) only [u2_same, u2_ne, and_self]
theorem D_write {G : amG} {I : Nat → Nat → Int} {R : Nat → Nat → Option Nat} {L : Nat → Nat → Int64} {x c t : Nat} {Q : amR → amH → Prop} (hG : amG0 G) {a : Nat} (ht : (SH sT)[a]? = some (3, 0)) {s v w u : Int} (hQ : ∀ J : Nat → Nat → Int, only I J a → (J a 0 = s ∧ J a 1 = v ∧ J a 2 = w ∧ J a 3 = u) → Q (Sum.inl none) (J, R, L, (SH sT), x, 0, 0)) : CT G sX3_write [aR (some a), aI s, aI v, aI w, aI u] (I, R, L, (SH sT), x, c, t) Q := by
  refine CT_of ok_X3_write hG (Nat.le_of_ble_eq_true rfl) ?_
  show X G mX3_write Q 0 _ [] (I, R, L, (SH sT), x, 0, 0)
  refine B_X3_write_0 ?_
  try dsimp only
  refine ⟨ht, ?_⟩
  refine ⟨ht, ?_⟩
  refine ⟨ht, ?_⟩
  refine ⟨ht, ?_⟩
  refine ⟨rfl, ?_⟩
  refine hQ _ ?_ ?_
  · exact only_u2 (only_u2 (only_u2 (only_u2 (fun c hc => rfl) _ _) _ _) _ _) _ _
  · simp (disch := omega) only [u2_same, u2_ne, and_self]
theorem D_copyOrder {G : amG} {I : Nat → Nat → Int} {R : Nat → Nat → Option Nat} {L : Nat → Nat → Int64} {x c t : Nat} {Q : amR → amH → Prop} (hG : amG0 G) {a a2 : Nat} (ht : (SH sT)[a]? = some (3, 0)) (ht2 : (SH sT)[a2]? = some (3, 0)) (hQ : ∀ J : Nat → Nat → Int, only I J a → (J a 0 = I a2 0 ∧ J a 1 = I a2 1 ∧ J a 2 = I a2 2 ∧ J a 3 = I a2 3) → Q (Sum.inl none) (J, R, L, (SH sT), x, 0, 0)) : CT G sX3_copyFrom [aR (some a), aR (some a2)] (I, R, L, (SH sT), x, c, t) Q := by
  refine CT_of ok_X3_copyFrom hG (Nat.le_of_ble_eq_true rfl) ?_
  show X G mX3_copyFrom Q 0 _ [] (I, R, L, (SH sT), x, 0, 0)
  refine B_X3_copyFrom_0 ?_
  try dsimp only
  refine ⟨ht2, ?_⟩
  refine ⟨ht2, ?_⟩
  refine ⟨ht2, ?_⟩
  refine ⟨ht2, ?_⟩
  refine ⟨⟨Nat.zero_le _, Nat.zero_le _, Nat.le_of_ble_eq_true rfl⟩, ht, ?_⟩
  refine D_write hG ht (fun J j1 j2 => ?_)
  refine af_N0 rfl rfl rfl ?_
  try dsimp only
  refine B_X3_copyFrom_20 ?_
  try dsimp only
  refine ⟨rfl, ?_⟩
  exact hQ J j1 j2
theorem D_copyField {G : amG} {I : Nat → Nat → Int} {R : Nat → Nat → Option Nat} {L : Nat → Nat → Int64} {x c t : Nat} {Q : amR → amH → Prop} (hG : amG0 G) {b d : Nat} (hB : wb b) (hRW : RW R b) (hD : wb d) (hRD : RW R d) (hQ : ∀ J : Nat → Nat → Int, only I J (b + 2) → (∀ j : Nat, j < 96 → J (b + 2) j = I (d + 2) j) → Q (Sum.inl none) (J, R, L, (SH sT), x, 0, 0)) : CT G sX5_copyFrom [aR (some (b + 1)), aR (some (d + 1))] (I, R, L, (SH sT), x, c, t) Q := by
  refine CT_of ok_X5_copyFrom hG (Nat.le_of_ble_eq_true rfl) ?_
  show X G mX5_copyFrom Q 0 _ [] (I, R, L, (SH sT), x, 0, 0)
  refine B_X5_copyFrom_0 ?_
  try dsimp only
  refine ⟨sw1 hD, _, hRD.ht, ?_⟩
  refine ⟨sw1 hB, _, hRW.ht, ?_⟩
  refine ⟨_, _, (by first | exact sw2 hB | exact sw2 hD), (by first | exact sw2 hB | exact sw2 hD), ⟨by omega, by omega, by omega, by omega, by omega, by omega, by omega, Nat.le_of_ble_eq_true rfl⟩, ?_⟩
  refine ⟨rfl, ?_⟩
  refine hQ _ (fun c hc => funext (fun j => ?_)) (fun j hj => ?_)
  · show uCpy _ _ _ _ _ _ c j = _
    unfold uCpy
    rw [if_neg (fun w => hc w.1)]
  · show uCpy _ _ _ _ _ _ (b + 2) j = _
    unfold uCpy
    rw [if_pos ⟨rfl, by omega, by omega⟩]
    congr 1
    omega
theorem L_shareLeft {G : amG} {I : Nat → Nat → Int} {R : Nat → Nat → Option Nat} {L : Nat → Nat → Int64} {x : Nat} {Q : amR → amH → Prop} (hG : amG0 G) {b : Nat} (hB : wb b) (hRW : RW R b) {z : Row} (hW : WV I b z) (hb : wfB z) (hK : X G mX8_shareLeft Q 30 [some (aR (some b)), some (aI (fiN z (z 98).toNat)), some (aI (z 98))] [] (I, R, L, (SH sT), x, 0, 0)) :
    ∀ (n : Nat) (j a : Int), (0 ≤ j ∧ j ≤ z 98 ∧ z 98 - j < n) → a = fiN z j.toNat → X G mX8_shareLeft Q 4 [some (aR (some b)), some (aI a), some (aI j)] [] (I, R, L, (SH sT), x, 0, 0) := by
  intro n
  induction n with
  | zero =>
    intros
    exfalso; omega
  | succ n ih =>
    intro j a h1 ha
    have hn1 := hb.2.1.1
    have hn2 := hb.2.1.2
    have hb1 := wb_le hB
    have hbd := fiN_b hb.2.2.1 j.toNat (by omega)
    have hs : fiN z (j.toNat + 1) = fiN z j.toNat + tf z j.toNat 5 := rfl
    have hT : j < z 98 → 0 ≤ tf z j.toNat 5 ∧ tf z j.toNat 5 ≤ 20 := fun q => by
      have := hb.2.2.1 j.toNat (by omega)
      unfold wfT1 at this
      omega
    refine B_X8_shareLeft_4 ?_
    try dsimp only
    try simp (disch := omega) only [wN hW, wO hW, wTu hW, wGi hW, wMi hW, wL0 hW, wL1 hW, wG0 hW, wG1 hW, wT hW, wH hW, Int.reduceToNat]
    refine ⟨sw0 hB, ?_⟩
    try simp (disch := omega) only [wN hW, wO hW, wTu hW, wGi hW, wMi hW, wL0 hW, wL1 hW, wG0 hW, wG1 hW, wT hW, wH hW, Int.reduceToNat]
    refine ⟨fun c9_0 => ?_, fun c9_0 => ?_⟩
    · have e : j = z 98 := by omega
      rw [e] at ha ⊢
      rw [ha]
      exact hK
    · refine ⟨sw0 hB, _, hRW.tr, ?_⟩
      refine ⟨_, _, sw4 hB, ⟨by decide, by decide⟩, ⟨by omega, by omega⟩, _, hRW.t (by omega), ?_⟩
      refine ⟨swT hB (by omega), ?_⟩
      try simp (disch := omega) only [wN hW, wO hW, wTu hW, wGi hW, wMi hW, wL0 hW, wL1 hW, wG0 hW, wG1 hW, wT hW, wH hW, Int.reduceToNat]
      refine ⟨by (refine ⟨?_, ?_⟩ <;> omega), ?_⟩
      refine ⟨by (refine ⟨?_, ?_⟩ <;> omega), ?_⟩
      refine ih (j + 1) _ (by omega) ?_
      rw [show (j + 1).toNat = j.toNat + 1 by omega, hs]
      omega
theorem D_shareLeft {G : amG} {I : Nat → Nat → Int} {R : Nat → Nat → Option Nat} {L : Nat → Nat → Int64} {x c t : Nat} {Q : amR → amH → Prop} (hG : amG0 G) {b : Nat} (hB : wb b) (hRW : RW R b) {z : Row} (hW : WV I b z) (hb : wfB z) (hQ : Q (Sum.inl (some (aD (shZr z)))) (I, R, L, (SH sT), x, 0, 0)) : CT G sX8_shareLeft [aR (some b)] (I, R, L, (SH sT), x, c, t) Q := by
  refine CT_of ok_X8_shareLeft hG (Nat.le_of_ble_eq_true rfl) ?_
  show X G mX8_shareLeft Q 0 _ [] (I, R, L, (SH sT), x, 0, 0)
  have hn1 := hb.2.1.1
  have hn2 := hb.2.1.2
  have hb1 := wb_le hB
  have hfb := fiN_b hb.2.2.1 (z 98).toNat (by omega)
  have hsf := st_fi hb.2.2.1 hb.2.2.2.2.2 (z 98).toNat (by omega)
  have hs0 := stN_b hb.2.2.1 0 (z 98).toNat (by omega)
  have hs1 := stN_b hb.2.2.1 1 (z 98).toNat (by omega)
  refine B_X8_shareLeft_0 ?_
  try dsimp only
  try simp (disch := omega) only [wN hW, wO hW, wTu hW, wGi hW, wMi hW, wL0 hW, wL1 hW, wG0 hW, wG1 hW, wT hW, wH hW, Int.reduceToNat]
  refine L_shareLeft hG hB hRW hW hb ?_ 13 0 0 (by omega) rfl
  refine B_X8_shareLeft_30 ?_
  try dsimp only
  try simp (disch := omega) only [wN hW, wO hW, wTu hW, wGi hW, wMi hW, wL0 hW, wL1 hW, wG0 hW, wG1 hW, wT hW, wH hW, Int.reduceToNat]
  refine ⟨fun c32_0 => ?_, fun c32_0 => ?_⟩
  · refine B_X8_shareLeft_39 ?_
    try dsimp only
    try simp (disch := omega) only [wN hW, wO hW, wTu hW, wGi hW, wMi hW, wL0 hW, wL1 hW, wG0 hW, wG1 hW, wT hW, wH hW, Int.reduceToNat]
    refine ⟨⟨Nat.zero_le _, Nat.zero_le _, Nat.le_of_ble_eq_true rfl⟩, sw0 hB, ?_⟩
    refine D_strengthOf hG hB hRW hW hb ?_
    refine af_I0 rfl rfl (by decide) ?_
    try dsimp only
    try simp (disch := omega) only [wN hW, wO hW, wTu hW, wGi hW, wMi hW, wL0 hW, wL1 hW, wG0 hW, wG1 hW, wT hW, wH hW, Int.reduceToNat]
    refine B_X8_shareLeft_44 ?_
    try dsimp only
    try simp (disch := omega) only [wN hW, wO hW, wTu hW, wGi hW, wMi hW, wL0 hW, wL1 hW, wG0 hW, wG1 hW, wT hW, wH hW, Int.reduceToNat]
    refine ⟨⟨Nat.zero_le _, Nat.zero_le _, Nat.le_of_ble_eq_true rfl⟩, sw0 hB, ?_⟩
    refine D_strengthOf hG hB hRW hW hb ?_
    refine af_I0 rfl rfl (by decide) ?_
    try dsimp only
    try simp (disch := omega) only [wN hW, wO hW, wTu hW, wGi hW, wMi hW, wL0 hW, wL1 hW, wG0 hW, wG1 hW, wT hW, wH hW, Int.reduceToNat]
    refine B_X8_shareLeft_49 ?_
    try dsimp only
    try simp (disch := omega) only [wN hW, wO hW, wTu hW, wGi hW, wMi hW, wL0 hW, wL1 hW, wG0 hW, wG1 hW, wT hW, wH hW, Int.reduceToNat]
    refine ⟨by (refine ⟨?_, ?_⟩ <;> omega), ?_⟩
    refine ⟨by (have hv := (shD_ok (a := (stN z 0 (z 98).toNat + stN z 1 (z 98).toNat).toNat) (b := (fiN z (z 98).toNat).toNat) (by omega) (by omega) (by omega)).2; unfold shD at hv; rw [Int.toNat_of_nonneg (by omega), Int.toNat_of_nonneg (by omega)] at hv; exact vf_small hv), ?_⟩
    refine B_X8_shareLeft_54 ?_
    try dsimp only
    try simp (disch := omega) only [wN hW, wO hW, wTu hW, wGi hW, wMi hW, wL0 hW, wL1 hW, wG0 hW, wG1 hW, wT hW, wH hW, Int.reduceToNat]
    refine ⟨rfl, ?_⟩
    first
      | (have e : shZr z = FP.dconst1 := by unfold shZr; exact if_pos (by omega)
         rw [e] at hQ
         exact hQ)
      | (have e : shZr z = shD (stN z 0 (z 98).toNat + stN z 1 (z 98).toNat).toNat (fiN z (z 98).toNat).toNat := by unfold shZr; rw [if_neg (by omega)]
         rw [e] at hQ
         unfold shD at hQ
         rw [Int.toNat_of_nonneg (by omega), Int.toNat_of_nonneg (by omega)] at hQ
         exact hQ)
  · refine B_X8_shareLeft_54 ?_
    try dsimp only
    try simp (disch := omega) only [wN hW, wO hW, wTu hW, wGi hW, wMi hW, wL0 hW, wL1 hW, wG0 hW, wG1 hW, wT hW, wH hW, Int.reduceToNat]
    refine ⟨rfl, ?_⟩
    first
      | (have e : shZr z = FP.dconst1 := by unfold shZr; exact if_pos (by omega)
         rw [e] at hQ
         exact hQ)
      | (have e : shZr z = shD (stN z 0 (z 98).toNat + stN z 1 (z 98).toNat).toNat (fiN z (z 98).toNat).toNat := by unfold shZr; rw [if_neg (by omega)]
         rw [e] at hQ
         unfold shD at hQ
         rw [Int.toNat_of_nonneg (by omega), Int.toNat_of_nonneg (by omega)] at hQ
         exact hQ)
/-! ===== the class: a war is copied ===== -/
theorem wb_ne {b d : Nat} (hB : wb b) (hD : wb d) (h : b ≠ d) : b + 49 ≤ d ∨ d + 49 ≤ b := by
  rcases hB with e | e | e | e | e | e | e <;> rcases hD with e2 | e2 | e2 | e2 | e2 | e2 | e2 <;> omega
theorem L_cpA {G : amG} {I : Nat → Nat → Int} {R : Nat → Nat → Option Nat} {L : Nat → Nat → Int64} {x : Nat} {Q : amR → amH → Prop} (hG : amG0 G) {b d : Nat} (hB : wb b) (hRW : RW R b) (hD : wb d) (hRD : RW R d) (hne : b ≠ d) (hK : ∀ J : Nat → Nat → Int, (∀ c : Nat, c ≠ b + 3 → c ≠ b + 6 → J c = I c) → (∀ s : Nat, s < 2 → J (b + 3) s = I (d + 3) s ∧ J (b + 6) s = I (d + 6) s) → X G mX8_copyFrom Q 48 [some (aR (some b)), some (aR (some d)), some (aI 2)] [] (J, R, L, (SH sT), x, 0, 0)) :
    ∀ (n : Nat) (j : Int) (J : Nat → Nat → Int), (0 ≤ j ∧ j ≤ 2 ∧ 2 - j < n) → (∀ c : Nat, c ≠ b + 3 → c ≠ b + 6 → J c = I c) → (∀ s : Nat, (s : Int) < j → J (b + 3) s = I (d + 3) s ∧ J (b + 6) s = I (d + 6) s) → X G mX8_copyFrom Q 13 [some (aR (some b)), some (aR (some d)), some (aI j)] [] (J, R, L, (SH sT), x, 0, 0) := by
  intro n
  induction n with
  | zero =>
    intros
    exfalso; omega
  | succ n ih =>
    intro j J h1 hJ hs
    have hbd := wb_ne hB hD hne
    refine B_X8_copyFrom_13 ?_
    try dsimp only
    refine ⟨fun c15_0 => ?_, fun c15_0 => ?_⟩
    · have e : j = 2 := by omega
      rw [e] at hs ⊢
      exact hK J hJ (fun s h => hs s (by omega))
    · refine ⟨sw0 hB, _, hRW.ge, ?_⟩
      refine ⟨sw0 hD, _, hRD.ge, ?_⟩
      refine ⟨_, (by first | exact sw3 hB | exact sw3 hD), ⟨by omega, by omega⟩, ?_⟩
      refine ⟨_, (by first | exact sw3 hB | exact sw3 hD), ⟨by omega, by omega⟩, ?_⟩
      refine ⟨sw0 hB, _, hRW.lo, ?_⟩
      refine ⟨sw0 hD, _, hRD.lo, ?_⟩
      refine ⟨_, (by first | exact sw6 hB | exact sw6 hD), ⟨by omega, by omega⟩, ?_⟩
      refine ⟨_, (by first | exact sw6 hB | exact sw6 hD), ⟨by omega, by omega⟩, ?_⟩
      refine ⟨by (refine ⟨?_, ?_⟩ <;> omega), ?_⟩
      refine ih (j + 1) _ (by omega) (fun c h2 h3 => ?_) (fun s hs1 => ?_)
      · rw [u2_off _ _ _ h3, u2_off _ _ _ h2]
        exact hJ c h2 h3
      · by_cases e : s = j.toNat
        · rw [e]
          refine ⟨?_, ?_⟩
          · rw [u2_off _ _ _ (by omega), u2_same, hJ _ (by omega) (by omega)]
          · rw [u2_same, u2_off _ _ _ (by omega), hJ _ (by omega) (by omega)]
        · rw [u2_ne (x := b + 3) _ _ (by omega), u2_ne (x := b + 3) _ _ (by omega), u2_ne (x := b + 6) _ _ (by omega), u2_ne (x := b + 6) _ _ (by omega)]
          exact hs s (by omega)
theorem L_cpB {G : amG} {I : Nat → Nat → Int} {R : Nat → Nat → Option Nat} {L : Nat → Nat → Int64} {x : Nat} {Q : amR → amH → Prop} (hG : amG0 G) {b d : Nat} (hB : wb b) (hRW : RW R b) (hD : wb d) (hRD : RW R d) (hne : b ≠ d) {m : Int} (hm : 0 ≤ m ∧ m ≤ 12) (hI : I b 3 = m) (hK : ∀ J : Nat → Nat → Int, (∀ c : Nat, c < b + 7 ∨ b + 19 ≤ c → J c = I c) → (∀ k f : Nat, (k : Int) < m → f < 8 → J (b + 7 + k) f = I (d + 7 + k) f) → X G mX8_copyFrom Q 87 [some (aR (some b)), some (aR (some d)), some (aI m)] [] (J, R, L, (SH sT), x, 0, 0)) :
    ∀ (n : Nat) (j : Int) (J : Nat → Nat → Int), (0 ≤ j ∧ j ≤ m ∧ m - j < n) → (∀ c : Nat, c < b + 7 ∨ b + 19 ≤ c → J c = I c) → (∀ k f : Nat, (k : Int) < j → f < 8 → J (b + 7 + k) f = I (d + 7 + k) f) → X G mX8_copyFrom Q 58 [some (aR (some b)), some (aR (some d)), some (aI j)] [] (J, R, L, (SH sT), x, 0, 0) := by
  intro n
  induction n with
  | zero =>
    intros
    exfalso; omega
  | succ n ih =>
    intro j J h1 hJ hs
    have hbd := wb_ne hB hD hne
    have hJb : J b 3 = m := by rw [hJ b (by omega)]; exact hI
    refine B_X8_copyFrom_58 ?_
    try dsimp only
    try simp only [hJb]
    refine ⟨sw0 hB, ?_⟩
    try simp only [hJb]
    refine ⟨fun c63_0 => ?_, fun c63_0 => ?_⟩
    · have e : j = m := by omega
      rw [e] at hs ⊢
      exact hK J hJ hs
    · refine ⟨sw0 hB, _, hRW.tr, ?_⟩
      refine ⟨_, _, (by first | exact sw4 hB | exact sw4 hD), ⟨by decide, by decide⟩, ⟨by omega, by omega⟩, _, (by first | exact hRW.t (by omega) | exact hRD.t (by omega)), ?_⟩
      refine ⟨sw0 hD, _, hRD.tr, ?_⟩
      refine ⟨_, _, (by first | exact sw4 hB | exact sw4 hD), ⟨by decide, by decide⟩, ⟨by omega, by omega⟩, _, (by first | exact hRW.t (by omega) | exact hRD.t (by omega)), ?_⟩
      refine ⟨⟨Nat.zero_le _, Nat.zero_le _, Nat.le_of_ble_eq_true rfl⟩, (by first | exact swT hB (by omega) | exact swT hD (by omega)), ?_⟩
      refine D_copyTroop hG (swT hB (by omega)) (swT hD (by omega)) (by omega) (fun J2 j1 j2 => ?_)
      refine af_N0 rfl rfl rfl ?_
      try dsimp only
      try simp only [hJb]
      refine B_X8_copyFrom_81 ?_
      try dsimp only
      try simp only [hJb]
      refine ⟨by (refine ⟨?_, ?_⟩ <;> omega), ?_⟩
      refine ih (j + 1) _ (by omega) (fun c hc => ?_) (fun k f hk hf => ?_)
      · rw [j1 c (by omega)]
        exact hJ c hc
      · by_cases e : k = j.toNat
        · rw [e, j2 f hf, hJ _ (by omega)]
        · rw [j1 _ (by omega)]
          exact hs k f (by omega) hf
theorem L_cpC {G : amG} {I : Nat → Nat → Int} {R : Nat → Nat → Option Nat} {L : Nat → Nat → Int64} {x : Nat} {Q : amR → amH → Prop} (hG : amG0 G) {b d : Nat} (hB : wb b) (hRW : RW R b) (hD : wb d) (hRD : RW R d) (hne : b ≠ d) {m : Int} (hm : 0 ≤ m ∧ m ≤ 30) (hI : I b 5 = m) (hK : ∀ J : Nat → Nat → Int, (∀ c : Nat, c < b + 19 ∨ b + 49 ≤ c → J c = I c) → (∀ k : Nat, (k : Int) < m → odC J b k = odC I d k) → X G mX8_copyFrom Q 126 [some (aR (some b)), some (aR (some d)), some (aI m)] [] (J, R, L, (SH sT), x, 0, 0)) :
    ∀ (n : Nat) (j : Int) (J : Nat → Nat → Int), (0 ≤ j ∧ j ≤ m ∧ m - j < n) → (∀ c : Nat, c < b + 19 ∨ b + 49 ≤ c → J c = I c) → (∀ k : Nat, (k : Int) < j → odC J b k = odC I d k) → X G mX8_copyFrom Q 97 [some (aR (some b)), some (aR (some d)), some (aI j)] [] (J, R, L, (SH sT), x, 0, 0) := by
  intro n
  induction n with
  | zero =>
    intros
    exfalso; omega
  | succ n ih =>
    intro j J h1 hJ hs
    have hbd := wb_ne hB hD hne
    have hJb : J b 5 = m := by rw [hJ b (by omega)]; exact hI
    refine B_X8_copyFrom_97 ?_
    try dsimp only
    try simp only [hJb]
    refine ⟨sw0 hB, ?_⟩
    try simp only [hJb]
    refine ⟨fun c102_0 => ?_, fun c102_0 => ?_⟩
    · have e : j = m := by omega
      rw [e] at hs ⊢
      exact hK J hJ hs
    · refine ⟨sw0 hB, _, hRW.orr, ?_⟩
      refine ⟨_, _, (by first | exact sw5 hB | exact sw5 hD), ⟨by decide, by decide⟩, ⟨by omega, by omega⟩, _, (by first | exact hRW.o (by omega) | exact hRD.o (by omega)), ?_⟩
      refine ⟨sw0 hD, _, hRD.orr, ?_⟩
      refine ⟨_, _, (by first | exact sw5 hB | exact sw5 hD), ⟨by decide, by decide⟩, ⟨by omega, by omega⟩, _, (by first | exact hRW.o (by omega) | exact hRD.o (by omega)), ?_⟩
      refine ⟨⟨Nat.zero_le _, Nat.zero_le _, Nat.le_of_ble_eq_true rfl⟩, (by first | exact swO hB (by omega) | exact swO hD (by omega)), ?_⟩
      refine D_copyOrder hG (swO hB (by omega)) (swO hD (by omega)) (fun J2 j1 j2 => ?_)
      refine af_N0 rfl rfl rfl ?_
      try dsimp only
      try simp only [hJb]
      refine B_X8_copyFrom_120 ?_
      try dsimp only
      try simp only [hJb]
      refine ⟨by (refine ⟨?_, ?_⟩ <;> omega), ?_⟩
      refine ih (j + 1) _ (by omega) (fun c hc => ?_) (fun k hk => ?_)
      · rw [j1 c (by omega)]
        exact hJ c hc
      · by_cases e : k = j.toNat
        · rw [e]
          unfold odC
          rw [j2.1, j2.2.1, j2.2.2.1, j2.2.2.2, hJ _ (by omega)]
        · have := hs k (by omega)
          unfold odC at this ⊢
          rw [j1 _ (by omega)]
          exact this
theorem D_copyWar {G : amG} {I : Nat → Nat → Int} {R : Nat → Nat → Option Nat} {L : Nat → Nat → Int64} {x c t : Nat} {Q : amR → amH → Prop} (hG : amG0 G) {b d : Nat} (hB : wb b) (hRW : RW R b) (hD : wb d) (hRD : RW R d) (hne : b ≠ d) {z : Row} (hW : WV I d z) (hn : 0 ≤ z 98 ∧ z 98 ≤ 12) (ho : 0 ≤ z 195 ∧ z 195 ≤ 30) (hQ : ∀ J : Nat → Nat → Int, (∀ c : Nat, c < b ∨ b + 49 ≤ c → J c = I c) → WV J b z → (∀ k : Nat, (k : Int) < z 195 → odC J b k = odC I d k) → Q (Sum.inl none) (J, R, L, (SH sT), x, 0, 0)) : CT G sX8_copyFrom [aR (some b), aR (some d)] (I, R, L, (SH sT), x, c, t) Q := by
  refine CT_of ok_X8_copyFrom hG (Nat.le_of_ble_eq_true rfl) ?_
  show X G mX8_copyFrom Q 0 _ [] (I, R, L, (SH sT), x, 0, 0)
  have hbd := wb_ne hB hD hne
  refine B_X8_copyFrom_0 ?_
  try dsimp only
  refine ⟨sw0 hB, _, hRW.te, ?_⟩
  refine ⟨sw0 hD, _, hRD.te, ?_⟩
  refine ⟨⟨Nat.zero_le _, Nat.zero_le _, Nat.le_of_ble_eq_true rfl⟩, (by first | exact sw1 hB | exact sw1 hD), ?_⟩
  refine D_copyField hG hB hRW hD hRD (fun J1 p1 q1 => ?_)
  refine af_N0 rfl rfl rfl ?_
  try dsimp only
  refine B_X8_copyFrom_11 ?_
  try dsimp only
  refine L_cpA hG hB hRW hD hRD hne (fun J2 p2 q2 => ?_) 3 0 _ (by omega) (fun c _ _ => rfl) (fun s hs => by omega)
  refine B_X8_copyFrom_48 ?_
  try dsimp only
  refine ⟨sw0 hD, ?_⟩
  refine ⟨sw0 hB, ?_⟩
  refine L_cpB hG hB hRW hD hRD hne (m := z 98) hn (by rw [u2_same, p2 _ (by omega) (by omega), p1 _ (by omega)]; exact wN hW) (fun J3 p3' q3 => ?_) 13 0 _ (by omega) (fun c _ => rfl) (fun k f hk => by omega)
  refine B_X8_copyFrom_87 ?_
  try dsimp only
  refine ⟨sw0 hD, ?_⟩
  refine ⟨sw0 hB, ?_⟩
  have e5 : J3 d 5 = z 195 := by
    rw [p3' _ (by omega), u2_off _ _ _ (by omega), p2 _ (by omega) (by omega), p1 _ (by omega)]
    exact wO hW
  refine L_cpC hG hB hRW hD hRD hne (m := z 195) ho (by rw [u2_same]; exact e5) (fun J4 p4 q4 => ?_) 31 0 _ (by omega) (fun c _ => rfl) (fun k hk => by omega)
  refine B_X8_copyFrom_126 ?_
  try dsimp only
  refine ⟨sw0 hD, ?_⟩
  refine ⟨sw0 hB, ?_⟩
  refine ⟨sw0 hD, ?_⟩
  refine ⟨sw0 hB, ?_⟩
  refine ⟨sw0 hD, ?_⟩
  refine ⟨sw0 hB, ?_⟩
  refine ⟨rfl, ?_⟩
  have F : ∀ c : Nat, c ≠ b → u2 (u2 (u2 J4 b 6 (J4 d 6)) b 7 (u2 J4 b 6 (J4 d 6) d 7)) b 8 (u2 (u2 J4 b 6 (J4 d 6)) b 7 (u2 J4 b 6 (J4 d 6) d 7) d 8) c = J4 c := fun c hc => by
    rw [u2_off _ _ _ hc, u2_off _ _ _ hc, u2_off _ _ _ hc]
  have J4d : ∀ c : Nat, d ≤ c → c < d + 49 → J4 c = I c := fun c h1 h2 => by
    rw [p4 c (by omega), u2_off _ _ _ (by omega), p3' c (by omega), u2_off _ _ _ (by omega), p2 c (by omega) (by omega), p1 c (by omega)]
  have J2d : ∀ c : Nat, d ≤ c → c < d + 49 → J2 c = I c := fun c h1 h2 => by
    rw [p2 c (by omega) (by omega), p1 c (by omega)]
  have J1d : ∀ c : Nat, d ≤ c → c < d + 49 → J1 c = I c := fun c h1 h2 => p1 c (by omega)
  refine hQ _ (fun c hc => ?_) ⟨fun j hj => ?_, ⟨?_, ?_⟩, ?_, ?_, ?_, ?_, ?_, ⟨?_, ?_⟩, fun k f hk hf => ?_⟩ (fun k hk => ?_)
  · rw [F c (by omega), p4 c (by omega), u2_off _ _ _ (by omega), p3' c (by omega), u2_off _ _ _ (by omega), p2 c (by omega) (by omega), p1 c (by omega)]
  · rw [F _ (by omega), p4 _ (by omega), u2_off _ _ _ (by omega), p3' _ (by omega), u2_off _ _ _ (by omega), p2 _ (by omega) (by omega), q1 j hj]
    exact wH hW j hj
  · rw [F _ (by omega), p4 _ (by omega), u2_off _ _ _ (by omega), p3' _ (by omega), u2_off _ _ _ (by omega), (q2 0 (by decide)).1, J1d _ (by omega) (by omega)]
    exact wG0 hW
  · rw [F _ (by omega), p4 _ (by omega), u2_off _ _ _ (by omega), p3' _ (by omega), u2_off _ _ _ (by omega), (q2 1 (by decide)).1, J1d _ (by omega) (by omega)]
    exact wG1 hW
  · rw [u2_ne _ _ (by omega), u2_ne _ _ (by omega), u2_ne _ _ (by omega), p4 _ (by omega), u2_ne _ _ (by omega), p3' _ (by omega), u2_same, J2d _ (by omega) (by omega)]
    exact wN hW
  · rw [u2_ne _ _ (by omega), u2_ne _ _ (by omega), u2_ne _ _ (by omega), p4 _ (by omega), u2_same]
    exact e5
  · rw [u2_ne _ _ (by omega), u2_ne _ _ (by omega), u2_same, J4d _ (by omega) (by omega)]
    exact wTu hW
  · rw [u2_ne _ _ (by omega), u2_same, u2_off _ _ _ (by omega), J4d _ (by omega) (by omega)]
    exact wGi hW
  · rw [u2_same, u2_off _ _ _ (by omega), u2_off _ _ _ (by omega), J4d _ (by omega) (by omega)]
    exact wMi hW
  · rw [F _ (by omega), p4 _ (by omega), u2_off _ _ _ (by omega), p3' _ (by omega), u2_off _ _ _ (by omega), (q2 0 (by decide)).2, J1d _ (by omega) (by omega)]
    exact wL0 hW
  · rw [F _ (by omega), p4 _ (by omega), u2_off _ _ _ (by omega), p3' _ (by omega), u2_off _ _ _ (by omega), (q2 1 (by decide)).2, J1d _ (by omega) (by omega)]
    exact wL1 hW
  · rw [F _ (by omega), p4 _ (by omega), u2_off _ _ _ (by omega), q3 k f hk hf, u2_off _ _ _ (by omega), J2d _ (by omega) (by omega)]
    exact wT hW k f hk hf
  · have e := q4 k hk
    unfold odC at e ⊢
    rw [F _ (by omega), e, u2_off _ _ _ (by omega), p3' _ (by omega), u2_off _ _ _ (by omega), J2d _ (by omega) (by omega)]
