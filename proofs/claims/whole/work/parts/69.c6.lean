theorem D_turnsTo {G : amG} {I : Nat → Nat → Int} {R : Nat → Nat → Option Nat} {L : Nat → Nat → Int64} {x c t : Nat} {Q : amR → amH → Prop} (hG : amG0 G) {b : Nat} (hB : wb b) (hRW : RW R b) {f q : Row} (hRC : RC R) (hRP : RP R 351) (htk : ∀ t : Nat, t < 96 → I 354 t = 0) {z : Row} (hW : WV I b z) (hb : wfB z) {k : Int} (hk : 0 ≤ k ∧ k < z 98) (hQ : ∀ f q : Row, Q (Sum.inl (some (aI (ordG z k.toNat)))) (p3 I 351 f q, R, L, SH, x, 0, 0)) : CT G sX0_turnsTo [aR (some 350), aR (some b), aI k] (p3 I 351 f q, R, L, SH, x, c, t) Q := by
  refine CT_of ok_X0_turnsTo hG (Nat.le_of_ble_eq_true rfl) ?_
  show X G mX0_turnsTo Q 0 _ [] (p3 I 351 f q, R, L, SH, x, 0, 0)
  have hn1 := hb.2.1.1
  have hn2 := hb.2.1.2
  have hb1 := wb_le hB
  have hT := hb.2.2.1 k.toNat (by omega)
  have hT' := hT
  unfold wfT1 at hT'
  have hc1 : isC (tf z k.toNat 1) := by unfold isC; omega
  have hgs := wGs hW (s := tf z k.toNat 0) (by omega)
  have hgc := wfG_g hb.2.2.2.2.1 (s := tf z k.toNat 0) (by omega)
  refine B_X0_turnsTo_0 ?_
  try dsimp only
  try simp (disch := omega) only [p3_f, p3_q, p3_o, wN hW, wO hW, wTu hW, wGi hW, wMi hW, wL0 hW, wL1 hW, wG0 hW, wG1 hW, wT hW, wH hW, uz_same, uz_ne, Nat.reduceAdd, hgs]
  refine ⟨sw0 hB, _, hRW.tr, ?_⟩
  refine ⟨_, _, sw4 hB, ⟨by decide, by decide⟩, ⟨by omega, by omega⟩, _, hRW.t (by omega), ?_⟩
  refine ⟨sw0 hB, _, hRW.ge, ?_⟩
  refine ⟨swT hB (by omega), ?_⟩
  try simp (disch := omega) only [p3_f, p3_q, p3_o, wN hW, wO hW, wTu hW, wGi hW, wMi hW, wL0 hW, wL1 hW, wG0 hW, wG1 hW, wT hW, wH hW, uz_same, uz_ne, Nat.reduceAdd, hgs]
  refine ⟨_, sw3 hB, ⟨by omega, by omega⟩, ?_⟩
  try simp (disch := omega) only [p3_f, p3_q, p3_o, wN hW, wO hW, wTu hW, wGi hW, wMi hW, wL0 hW, wL1 hW, wG0 hW, wG1 hW, wT hW, wH hW, uz_same, uz_ne, Nat.reduceAdd, hgs]
  refine ⟨sw0 hB, _, hRW.te, ?_⟩
  refine ⟨swT hB (by omega), ?_⟩
  try simp (disch := omega) only [p3_f, p3_q, p3_o, wN hW, wO hW, wTu hW, wGi hW, wMi hW, wL0 hW, wL1 hW, wG0 hW, wG1 hW, wT hW, wH hW, uz_same, uz_ne, Nat.reduceAdd, hgs]
  refine ⟨⟨Nat.zero_le _, Nat.zero_le _, Nat.le_of_ble_eq_true rfl⟩, sw1 hB, ?_⟩
  refine D_inSight hG hB hRW (HV_p3 (wH hW) hB hP1 f q) hb.1 hgc hc1 (fun r hr => ?_)
  have hs4 : (seeI z (z (96 + tf z k.toNat 0).toNat) (tf z k.toNat 1) = 1 ∧ r = 1) ∨ (seeI z (z (96 + tf z k.toNat 0).toNat) (tf z k.toNat 1) = 0 ∧ r = 0) := hr.imp (fun q => ⟨seeI_one q.1, q.2⟩) (fun q => ⟨seeI_zero q.1, q.2⟩)
  refine af_I0 rfl rfl (by decide) ?_
  try dsimp only
  try simp (disch := omega) only [p3_f, p3_q, p3_o, wN hW, wO hW, wTu hW, wGi hW, wMi hW, wL0 hW, wL1 hW, wG0 hW, wG1 hW, wT hW, wH hW, uz_same, uz_ne, Nat.reduceAdd, hgs]
  refine B_X0_turnsTo_31 ?_
  try dsimp only
  try simp (disch := omega) only [p3_f, p3_q, p3_o, wN hW, wO hW, wTu hW, wGi hW, wMi hW, wL0 hW, wL1 hW, wG0 hW, wG1 hW, wT hW, wH hW, uz_same, uz_ne, Nat.reduceAdd, hgs]
  refine ⟨fun c31_1 => ?_, fun c31_1 => ?_⟩
  · refine B_X0_turnsTo_36 ?_
    try dsimp only
    try simp (disch := omega) only [p3_f, p3_q, p3_o, wN hW, wO hW, wTu hW, wGi hW, wMi hW, wL0 hW, wL1 hW, wG0 hW, wG1 hW, wT hW, wH hW, uz_same, uz_ne, Nat.reduceAdd, hgs]
    refine ⟨sw0 hB, _, hRW.te, ?_⟩
    refine ⟨swT hB (by omega), ?_⟩
    try simp (disch := omega) only [p3_f, p3_q, p3_o, wN hW, wO hW, wTu hW, wGi hW, wMi hW, wL0 hW, wL1 hW, wG0 hW, wG1 hW, wT hW, wH hW, uz_same, uz_ne, Nat.reduceAdd, hgs]
    refine ⟨⟨Nat.zero_le _, Nat.zero_le _, Nat.le_of_ble_eq_true rfl⟩, sc0, ?_⟩
    refine D_stepsBetween hG hB hRW hRC hRP htk (wH hW) hb.1 hgc hc1 (fun f2 q2 => ?_)
    have hd1 := dS_b (z := z) hgc hc1
    have hd0 : dS z (z (96 + tf z k.toNat 0).toNat) (tf z k.toNat 1) ≠ 0 := fun e => by
      have e2 := dS_zero hgc hc1 e
      rw [e2, seeI_self] at hs4
      omega
    refine af_I0 rfl rfl (by decide) ?_
    try dsimp only
    try simp (disch := omega) only [p3_f, p3_q, p3_o, wN hW, wO hW, wTu hW, wGi hW, wMi hW, wL0 hW, wL1 hW, wG0 hW, wG1 hW, wT hW, wH hW, uz_same, uz_ne, Nat.reduceAdd, hgs]
    refine B_X0_turnsTo_50 ?_
    try dsimp only
    try simp (disch := omega) only [p3_f, p3_q, p3_o, wN hW, wO hW, wTu hW, wGi hW, wMi hW, wL0 hW, wL1 hW, wG0 hW, wG1 hW, wT hW, wH hW, uz_same, uz_ne, Nat.reduceAdd, hgs]
    refine ⟨⟨Nat.zero_le _, Nat.zero_le _, Nat.le_of_ble_eq_true rfl⟩, trivial, ?_⟩
    refine D_ridingTurns hG hd1 (fun r2 hr2 => ?_)
    refine af_I0 rfl rfl (by decide) ?_
    try dsimp only
    try simp (disch := omega) only [p3_f, p3_q, p3_o, wN hW, wO hW, wTu hW, wGi hW, wMi hW, wL0 hW, wL1 hW, wG0 hW, wG1 hW, wT hW, wH hW, uz_same, uz_ne, Nat.reduceAdd, hgs]
    refine B_X0_turnsTo_53 ?_
    try dsimp only
    try simp (disch := omega) only [p3_f, p3_q, p3_o, wN hW, wO hW, wTu hW, wGi hW, wMi hW, wL0 hW, wL1 hW, wG0 hW, wG1 hW, wT hW, wH hW, uz_same, uz_ne, Nat.reduceAdd, hgs]
    first
      | (have e : ordG z k.toNat = 1 := by unfold ordG ordT; rw [if_pos (by omega)]
         have hQ := hQ f q
         rw [e] at hQ
         exact hQ)
      | (have e : ordG z k.toNat = r2 := by
           unfold ordG ordT
           rw [if_neg (by omega)]
           split <;> omega
         have hQ := hQ f2 q2
         rw [e] at hQ
         exact hQ)
  · first
      | (have e : ordG z k.toNat = 1 := by unfold ordG ordT; rw [if_pos (by omega)]
         have hQ := hQ f q
         rw [e] at hQ
         exact hQ)
      | (have e : ordG z k.toNat = r2 := by
           unfold ordG ordT
           rw [if_neg (by omega)]
           split <;> omega
         have hQ := hQ f2 q2
         rw [e] at hQ
         exact hQ)
theorem D_refusal {G : amG} {I : Nat → Nat → Int} {R : Nat → Nat → Option Nat} {L : Nat → Nat → Int64} {x c t : Nat} {Q : amR → amH → Prop} (hG : amG0 G) {b : Nat} (hB : wb b) (hRW : RW R b) {f q : Row} (hRC : RC R) (hRP : RP R 351) (htk : ∀ t : Nat, t < 96 → I 354 t = 0) {z : Row} (hW : WV I b z) (hb : wfB z) {k : Int} (hk : 0 ≤ k ∧ k < z 98) (ho : 0 ≤ z 195 ∧ z 195 ≤ 30) (hQ : ∀ f q : Row, Q (Sum.inl (some (aI (whyN z k.toNat)))) (p3 I 351 f q, R, L, SH, x, 0, 0)) : CT G sX0_refusal [aR (some 350), aR (some b), aI k] (p3 I 351 f q, R, L, SH, x, c, t) Q := by
  refine CT_of ok_X0_refusal hG (Nat.le_of_ble_eq_true rfl) ?_
  show X G mX0_refusal Q 0 _ [] (p3 I 351 f q, R, L, SH, x, 0, 0)
  have hn1 := hb.2.1.1
  have hn2 := hb.2.1.2
  have hb1 := wb_le hB
  have hT := hb.2.2.1 k.toNat (by omega)
  have hT' := hT
  unfold wfT1 at hT'
  have hc1 : isC (tf z k.toNat 1) := by unfold isC; omega
  have hgs := wGs hW (s := tf z k.toNat 0) (by omega)
  have hgc := wfG_g hb.2.2.2.2.1 (s := tf z k.toNat 0) (by omega)
  refine B_X0_refusal_0 ?_
  try dsimp only
  try simp (disch := omega) only [p3_f, p3_q, p3_o, wN hW, wO hW, wTu hW, wGi hW, wMi hW, wL0 hW, wL1 hW, wG0 hW, wG1 hW, wT hW, wH hW, uz_same, uz_ne, Nat.reduceAdd, hgs]
  refine ⟨sw0 hB, _, hRW.tr, ?_⟩
  refine ⟨_, _, sw4 hB, ⟨by decide, by decide⟩, ⟨by omega, by omega⟩, _, hRW.t (by omega), ?_⟩
  refine ⟨swT hB (by omega), ?_⟩
  try simp (disch := omega) only [p3_f, p3_q, p3_o, wN hW, wO hW, wTu hW, wGi hW, wMi hW, wL0 hW, wL1 hW, wG0 hW, wG1 hW, wT hW, wH hW, uz_same, uz_ne, Nat.reduceAdd, hgs]
  refine ⟨fun c10_0 => ?_, fun c10_0 => ?_⟩
  · refine B_X0_refusal_15 ?_
    try dsimp only
    try simp (disch := omega) only [p3_f, p3_q, p3_o, wN hW, wO hW, wTu hW, wGi hW, wMi hW, wL0 hW, wL1 hW, wG0 hW, wG1 hW, wT hW, wH hW, uz_same, uz_ne, Nat.reduceAdd, hgs]
    refine ⟨⟨Nat.zero_le _, Nat.zero_le _, Nat.le_of_ble_eq_true rfl⟩, sc0, ?_⟩
    refine D_turnsTo hG hB hRW hRC hRP htk hW hb hk (fun f2 q2 => ?_)
    refine af_I0 rfl rfl (by decide) ?_
    try dsimp only
    try simp (disch := omega) only [p3_f, p3_q, p3_o, wN hW, wO hW, wTu hW, wGi hW, wMi hW, wL0 hW, wL1 hW, wG0 hW, wG1 hW, wT hW, wH hW, uz_same, uz_ne, Nat.reduceAdd, hgs]
    refine B_X0_refusal_21 ?_
    try dsimp only
    try simp (disch := omega) only [p3_f, p3_q, p3_o, wN hW, wO hW, wTu hW, wGi hW, wMi hW, wL0 hW, wL1 hW, wG0 hW, wG1 hW, wT hW, wH hW, uz_same, uz_ne, Nat.reduceAdd, hgs]
    refine ⟨fun c22_2 => ?_, fun c22_2 => ?_⟩
    · refine B_X0_refusal_27 ?_
      try dsimp only
      try simp (disch := omega) only [p3_f, p3_q, p3_o, wN hW, wO hW, wTu hW, wGi hW, wMi hW, wL0 hW, wL1 hW, wG0 hW, wG1 hW, wT hW, wH hW, uz_same, uz_ne, Nat.reduceAdd, hgs]
      refine ⟨sw0 hB, ?_⟩
      try simp (disch := omega) only [p3_f, p3_q, p3_o, wN hW, wO hW, wTu hW, wGi hW, wMi hW, wL0 hW, wL1 hW, wG0 hW, wG1 hW, wT hW, wH hW, uz_same, uz_ne, Nat.reduceAdd, hgs]
      refine ⟨fun c33_3 => ?_, fun c33_3 => ?_⟩
      · refine B_X0_refusal_40 ?_
        try dsimp only
        try simp (disch := omega) only [p3_f, p3_q, p3_o, wN hW, wO hW, wTu hW, wGi hW, wMi hW, wL0 hW, wL1 hW, wG0 hW, wG1 hW, wT hW, wH hW, uz_same, uz_ne, Nat.reduceAdd, hgs]
        refine B_X0_refusal_41 ?_
        try dsimp only
        try simp (disch := omega) only [p3_f, p3_q, p3_o, wN hW, wO hW, wTu hW, wGi hW, wMi hW, wL0 hW, wL1 hW, wG0 hW, wG1 hW, wT hW, wH hW, uz_same, uz_ne, Nat.reduceAdd, hgs]
        first
          | (have e : whyN z k.toNat = 1 := by unfold whyN; rw [if_pos (by omega)]
             have hQ := hQ f q
             rw [e] at hQ
             exact hQ)
          | (have e : whyN z k.toNat = 2 := by unfold whyN; rw [if_neg (by omega), if_pos (show ordG z k.toNat = -1 from Decidable.not_not.mp (by assumption))]
             have hQ := hQ f2 q2
             rw [e] at hQ
             exact hQ)
          | (have e : whyN z k.toNat = 3 := by unfold whyN; rw [if_neg (by omega), if_neg (by assumption), if_pos (by omega)]
             have hQ := hQ f2 q2
             rw [e] at hQ
             exact hQ)
          | (have e : whyN z k.toNat = 0 := by unfold whyN; rw [if_neg (by omega), if_neg (by assumption), if_neg (by omega)]
             have hQ := hQ f2 q2
             rw [e] at hQ
             exact hQ)
      · refine B_X0_refusal_41 ?_
        try dsimp only
        try simp (disch := omega) only [p3_f, p3_q, p3_o, wN hW, wO hW, wTu hW, wGi hW, wMi hW, wL0 hW, wL1 hW, wG0 hW, wG1 hW, wT hW, wH hW, uz_same, uz_ne, Nat.reduceAdd, hgs]
        first
          | (have e : whyN z k.toNat = 1 := by unfold whyN; rw [if_pos (by omega)]
             have hQ := hQ f q
             rw [e] at hQ
             exact hQ)
          | (have e : whyN z k.toNat = 2 := by unfold whyN; rw [if_neg (by omega), if_pos (show ordG z k.toNat = -1 from Decidable.not_not.mp (by assumption))]
             have hQ := hQ f2 q2
             rw [e] at hQ
             exact hQ)
          | (have e : whyN z k.toNat = 3 := by unfold whyN; rw [if_neg (by omega), if_neg (by assumption), if_pos (by omega)]
             have hQ := hQ f2 q2
             rw [e] at hQ
             exact hQ)
          | (have e : whyN z k.toNat = 0 := by unfold whyN; rw [if_neg (by omega), if_neg (by assumption), if_neg (by omega)]
             have hQ := hQ f2 q2
             rw [e] at hQ
             exact hQ)
    · first
        | (have e : whyN z k.toNat = 1 := by unfold whyN; rw [if_pos (by omega)]
           have hQ := hQ f q
           rw [e] at hQ
           exact hQ)
        | (have e : whyN z k.toNat = 2 := by unfold whyN; rw [if_neg (by omega), if_pos (show ordG z k.toNat = -1 from Decidable.not_not.mp (by assumption))]
           have hQ := hQ f2 q2
           rw [e] at hQ
           exact hQ)
        | (have e : whyN z k.toNat = 3 := by unfold whyN; rw [if_neg (by omega), if_neg (by assumption), if_pos (by omega)]
           have hQ := hQ f2 q2
           rw [e] at hQ
           exact hQ)
        | (have e : whyN z k.toNat = 0 := by unfold whyN; rw [if_neg (by omega), if_neg (by assumption), if_neg (by omega)]
           have hQ := hQ f2 q2
           rw [e] at hQ
           exact hQ)
  · first
      | (have e : whyN z k.toNat = 1 := by unfold whyN; rw [if_pos (by omega)]
         have hQ := hQ f q
         rw [e] at hQ
         exact hQ)
      | (have e : whyN z k.toNat = 2 := by unfold whyN; rw [if_neg (by omega), if_pos (show ordG z k.toNat = -1 from Decidable.not_not.mp (by assumption))]
         have hQ := hQ f2 q2
         rw [e] at hQ
         exact hQ)
      | (have e : whyN z k.toNat = 3 := by unfold whyN; rw [if_neg (by omega), if_neg (by assumption), if_pos (by omega)]
         have hQ := hQ f2 q2
         rw [e] at hQ
         exact hQ)
      | (have e : whyN z k.toNat = 0 := by unfold whyN; rw [if_neg (by omega), if_neg (by assumption), if_neg (by omega)]
         have hQ := hQ f2 q2
         rw [e] at hQ
         exact hQ)
