theorem pr_p3 (I : Nat → Nat → Int) (p : Nat) (f q r : Row) {a : Nat} (h : a ≠ p + 1 ∧ a ≠ p + 2) : pr (p3 I p f q) a r = p3 (pr I a r) p f q := funext (fun c => by
  by_cases e : c = a
  · rw [e, pr_at, p3_o _ _ _ _ h, pr_at]
  · rw [pr_off _ _ e]
    unfold p3
    rw [pr_off _ _ e])
theorem WV_pr {I : Nat → Nat → Int} {b a : Nat} {z : Row} (h : WV I b z) (hn : z 98 ≤ 12) (r : Row) (ha : a < b ∨ b + 49 ≤ a) : WV (pr I a r) b z := WV_off h hn (fun c h1 h2 => pr_off _ _ (by omega))
theorem L_bestA {G : amG} {I : Nat → Nat → Int} {R : Nat → Nat → Option Nat} {L : Nat → Nat → Int64} {x : Nat} {Q : amR → amH → Prop} (hG : amG0 G) {b : Nat} (hB : wb b) (hRW : RW R b) (hRC : RC R) (hRP : RP R 351) (htk : ∀ t : Nat, t < 96 → I 354 t = 0) {z : Row} (hW : WV I b z) (hb : wfB z) {v : Int} (hK : ∀ f q s : Row, (∀ c : Nat, c < 96 → s c = tmN z c v (z 98).toNat) → X G mX0_bestCell Q 67 [some (aR (some 350)), some (aR (some b)), some (aI v), some (aI (z 98)), none] [] (p3 (pr I 355 s) 351 f q, R, L, SH, x, 0, 0)) :
    ∀ (n : Nat) (j : Int) (f q s : Row), (0 ≤ j ∧ j ≤ z 98 ∧ z 98 - j < n) → (∀ c : Nat, c < 96 → s c = tmN z c v j.toNat) → X G mX0_bestCell Q 10 [some (aR (some 350)), some (aR (some b)), some (aI v), some (aI j), none] [] (p3 (pr I 355 s) 351 f q, R, L, SH, x, 0, 0) := by
  intro n
  induction n with
  | zero =>
    intros
    exfalso; omega
  | succ n ih =>
    intro j f q s h1 hs
    have hn1 := hb.2.1.1
    have hn2 := hb.2.1.2
    have hb1 := wb_le hB
    have hb3 := hb.2.1
    have hst : ∀ c : Nat, tmN z c v (j.toNat + 1) = tmN z c v j.toNat + (if tf z j.toNat 4 ≠ 2 ∧ tf z j.toNat 0 = v then tmC z c (tf z j.toNat 1) else 0) := fun c => rfl
    have hs0 : ∀ c : Nat, c < 96 → 0 ≤ s c ∧ s c ≤ 1000 := fun c hc => by
      have := tmN_b (z := z) (s := v) (c := c) (by unfold isC; omega) hb.2.2.1 j.toNat (by omega)
      rw [hs c hc]
      omega
    refine B_X0_bestCell_10 ?_
    try dsimp only
    try simp (disch := omega) only [p3_f, p3_q, p3_o, u2_p3_o, pr_at, pr_off, u2_pr, wN hW, wO hW, wTu hW, wGi hW, wMi hW, wL0 hW, wL1 hW, wG0 hW, wG1 hW, wT hW, wH hW, uz_same, uz_ne, Nat.reduceAdd]
    refine ⟨sw0 hB, ?_⟩
    try simp (disch := omega) only [p3_f, p3_q, p3_o, u2_p3_o, pr_at, pr_off, u2_pr, wN hW, wO hW, wTu hW, wGi hW, wMi hW, wL0 hW, wL1 hW, wG0 hW, wG1 hW, wT hW, wH hW, uz_same, uz_ne, Nat.reduceAdd]
    refine ⟨fun c15_0 => ?_, fun c15_0 => ?_⟩
    · have e : j = z 98 := by omega
      rw [e] at hs ⊢
      exact hK f q s hs
    · refine ⟨sw0 hB, _, hRW.tr, ?_⟩
      refine ⟨_, _, sw4 hB, ⟨by decide, by decide⟩, ⟨by omega, by omega⟩, _, hRW.t (by omega), ?_⟩
      refine ⟨swT hB (by omega), ?_⟩
      try simp (disch := omega) only [p3_f, p3_q, p3_o, u2_p3_o, pr_at, pr_off, u2_pr, wN hW, wO hW, wTu hW, wGi hW, wMi hW, wL0 hW, wL1 hW, wG0 hW, wG1 hW, wT hW, wH hW, uz_same, uz_ne, Nat.reduceAdd]
      refine ⟨fun c28_0 => ?_, fun c28_0 => ?_⟩
      · refine B_X0_bestCell_61 ?_
        try dsimp only
        try simp (disch := omega) only [p3_f, p3_q, p3_o, u2_p3_o, pr_at, pr_off, u2_pr, wN hW, wO hW, wTu hW, wGi hW, wMi hW, wL0 hW, wL1 hW, wG0 hW, wG1 hW, wT hW, wH hW, uz_same, uz_ne, Nat.reduceAdd]
        refine ⟨by (refine ⟨?_, ?_⟩ <;> omega), ?_⟩
        first
          | (refine ih (j + 1) _ _ _ (by omega) (fun c hc => ?_)
             rw [show (j + 1).toNat = j.toNat + 1 by omega, hst, if_neg (by omega), hs c hc, Int.add_zero])
          | (refine ih (j + 1) _ _ _ (by omega) (fun c hc => ?_)
             rw [show (j + 1).toNat = j.toNat + 1 by omega, hst, if_pos ⟨by omega, by omega⟩, adN_at, if_pos hc, hs c hc])
      · refine ⟨sw0 hB, _, hRW.tr, ?_⟩
        refine ⟨_, _, sw4 hB, ⟨by decide, by decide⟩, ⟨by omega, by omega⟩, _, hRW.t (by omega), ?_⟩
        refine ⟨swT hB (by omega), ?_⟩
        try simp (disch := omega) only [p3_f, p3_q, p3_o, u2_p3_o, pr_at, pr_off, u2_pr, wN hW, wO hW, wTu hW, wGi hW, wMi hW, wL0 hW, wL1 hW, wG0 hW, wG1 hW, wT hW, wH hW, uz_same, uz_ne, Nat.reduceAdd]
        refine ⟨fun c41_0 => ?_, fun c41_0 => ?_⟩
        · refine B_X0_bestCell_61 ?_
          try dsimp only
          try simp (disch := omega) only [p3_f, p3_q, p3_o, u2_p3_o, pr_at, pr_off, u2_pr, wN hW, wO hW, wTu hW, wGi hW, wMi hW, wL0 hW, wL1 hW, wG0 hW, wG1 hW, wT hW, wH hW, uz_same, uz_ne, Nat.reduceAdd]
          refine ⟨by (refine ⟨?_, ?_⟩ <;> omega), ?_⟩
          first
            | (refine ih (j + 1) _ _ _ (by omega) (fun c hc => ?_)
               rw [show (j + 1).toNat = j.toNat + 1 by omega, hst, if_neg (by omega), hs c hc, Int.add_zero])
            | (refine ih (j + 1) _ _ _ (by omega) (fun c hc => ?_)
               rw [show (j + 1).toNat = j.toNat + 1 by omega, hst, if_pos ⟨by omega, by omega⟩, adN_at, if_pos hc, hs c hc])
        · refine ⟨sw0 hB, _, hRW.te, ?_⟩
          refine ⟨sw0 hB, _, hRW.tr, ?_⟩
          refine ⟨_, _, sw4 hB, ⟨by decide, by decide⟩, ⟨by omega, by omega⟩, _, hRW.t (by omega), ?_⟩
          refine ⟨swT hB (by omega), ?_⟩
          try simp (disch := omega) only [p3_f, p3_q, p3_o, u2_p3_o, pr_at, pr_off, u2_pr, wN hW, wO hW, wTu hW, wGi hW, wMi hW, wL0 hW, wL1 hW, wG0 hW, wG1 hW, wT hW, wH hW, uz_same, uz_ne, Nat.reduceAdd]
          refine ⟨⟨Nat.zero_le _, Nat.zero_le _, Nat.le_of_ble_eq_true rfl⟩, sc0, ?_⟩
          have hT := hb.2.2.1 j.toNat (by omega)
          refine D_addTurns hG hB hRW hRC hRP htk (wH hW) hb.1 (v := tf z j.toNat 1) (by unfold isC; have := hT.2.1; omega) hs0 (fun f2 q2 => ?_)
          refine af_N0 rfl rfl rfl ?_
          try dsimp only
          try simp (disch := omega) only [p3_f, p3_q, p3_o, u2_p3_o, pr_at, pr_off, u2_pr, wN hW, wO hW, wTu hW, wGi hW, wMi hW, wL0 hW, wL1 hW, wG0 hW, wG1 hW, wT hW, wH hW, uz_same, uz_ne, Nat.reduceAdd]
          refine B_X0_bestCell_61 ?_
          try dsimp only
          try simp (disch := omega) only [p3_f, p3_q, p3_o, u2_p3_o, pr_at, pr_off, u2_pr, wN hW, wO hW, wTu hW, wGi hW, wMi hW, wL0 hW, wL1 hW, wG0 hW, wG1 hW, wT hW, wH hW, uz_same, uz_ne, Nat.reduceAdd]
          refine ⟨by (refine ⟨?_, ?_⟩ <;> omega), ?_⟩
          first
            | (refine ih (j + 1) _ _ _ (by omega) (fun c hc => ?_)
               rw [show (j + 1).toNat = j.toNat + 1 by omega, hst, if_neg (by omega), hs c hc, Int.add_zero])
            | (refine ih (j + 1) _ _ _ (by omega) (fun c hc => ?_)
               rw [show (j + 1).toNat = j.toNat + 1 by omega, hst, if_pos ⟨by omega, by omega⟩, adN_at, if_pos hc, hs c hc])
theorem L_bestB {G : amG} {I : Nat → Nat → Int} {R : Nat → Nat → Option Nat} {L : Nat → Nat → Int64} {x : Nat} {Q : amR → amH → Prop} (hG : amG0 G) {b : Nat} (hB : wb b) (hRW : RW R b) (hRC : RC R) (hRP : RP R 351) (htk : ∀ t : Nat, t < 96 → I 354 t = 0) {z : Row} (hW : WV I b z) (hb : wfB z) {v : Int} {f q s : Row} (hs : ∀ c : Nat, c < 96 → s c = tmN z c v (z 98).toNat) (hQ : Q (Sum.inl (some (aI (bpS z v 95).1))) (p3 (pr I 355 s) 351 f q, R, L, SH, x, 0, 0)) :
    ∀ (n : Nat) (j : Int), (1 ≤ j ∧ j ≤ 96 ∧ 96 - j < n) → X G mX0_bestCell Q 72 [some (aR (some 350)), some (aR (some b)), some (aI v), some (aI (bpS z v (j - 1).toNat).1), some (aI j)] [] (p3 (pr I 355 s) 351 f q, R, L, SH, x, 0, 0) := by
  intro n
  induction n with
  | zero =>
    intros
    exfalso; omega
  | succ n ih =>
    intro j h1
    have hn1 := hb.2.1.1
    have hn2 := hb.2.1.2
    have hb1 := wb_le hB
    have hj : (((j - 1).toNat + 1 : Nat) : Int) = j := by omega
    have hbs := bpS_s z v (j - 1).toNat
    have hval := bpS_val z v (j - 1).toNat
    rw [hj] at hbs
    have hQ' : j = 96 → Q (Sum.inl (some (aI (bpS z v (j - 1).toNat).1))) (p3 (pr I 355 s) 351 f q, R, L, SH, x, 0, 0) := fun e => by rw [e]; exact hQ
    generalize bpS z v (j - 1).toNat = S at *
    have hs1 : j < 96 → s j.toNat = tmN z j v (z 98).toNat := fun u => by
      have := hs j.toNat (by omega)
      rw [show ((j.toNat : Nat) : Int) = j by omega] at this
      exact this
    have hs2 : j < 96 → s S.1.toNat = S.2 := fun u => by
      have := hs S.1.toNat (by omega)
      rw [show ((S.1.toNat : Nat) : Int) = S.1 by omega, ← hval.2] at this
      exact this
    refine B_X0_bestCell_72 ?_
    try dsimp only
    try simp (disch := omega) only [p3_f, p3_q, p3_o, u2_p3_o, pr_at, pr_off, u2_pr, wN hW, wO hW, wTu hW, wGi hW, wMi hW, wL0 hW, wL1 hW, wG0 hW, wG1 hW, wT hW, wH hW, uz_same, uz_ne, Nat.reduceAdd]
    refine ⟨fun c76_0 => ?_, fun c76_0 => ?_⟩
    · refine B_X0_bestCell_104 ?_
      try dsimp only
      try simp (disch := omega) only [p3_f, p3_q, p3_o, u2_p3_o, pr_at, pr_off, u2_pr, wN hW, wO hW, wTu hW, wGi hW, wMi hW, wL0 hW, wL1 hW, wG0 hW, wG1 hW, wT hW, wH hW, uz_same, uz_ne, Nat.reduceAdd]
      exact hQ' (by omega)
    · have hs1 := hs1 (by omega)
      have hs2 := hs2 (by omega)
      refine ⟨sc0, _, hRC.2, ?_⟩
      refine ⟨_, sc5, ⟨by omega, by omega⟩, ?_⟩
      try simp (disch := omega) only [p3_f, p3_q, p3_o, u2_p3_o, pr_at, pr_off, u2_pr, wN hW, wO hW, wTu hW, wGi hW, wMi hW, wL0 hW, wL1 hW, wG0 hW, wG1 hW, wT hW, wH hW, uz_same, uz_ne, Nat.reduceAdd]
      refine ⟨sc0, _, hRC.2, ?_⟩
      refine ⟨_, sc5, ⟨by omega, by omega⟩, ?_⟩
      try simp (disch := omega) only [p3_f, p3_q, p3_o, u2_p3_o, pr_at, pr_off, u2_pr, wN hW, wO hW, wTu hW, wGi hW, wMi hW, wL0 hW, wL1 hW, wG0 hW, wG1 hW, wT hW, wH hW, uz_same, uz_ne, Nat.reduceAdd]
      refine ⟨fun c92_0 => ?_, fun c92_0 => ?_⟩
      · refine B_X0_bestCell_98 ?_
        try dsimp only
        try simp (disch := omega) only [p3_f, p3_q, p3_o, u2_p3_o, pr_at, pr_off, u2_pr, wN hW, wO hW, wTu hW, wGi hW, wMi hW, wL0 hW, wL1 hW, wG0 hW, wG1 hW, wT hW, wH hW, uz_same, uz_ne, Nat.reduceAdd]
        refine ⟨by (refine ⟨?_, ?_⟩ <;> omega), ?_⟩
        have e := ih (j + 1) (by omega)
        rw [show (j + 1 - 1).toNat = (j - 1).toNat + 1 by omega, hbs] at e
        first
          | (rw [if_pos (by omega)] at e; exact e)
          | (rw [if_neg (by omega)] at e; exact e)
      · refine B_X0_bestCell_98 ?_
        try dsimp only
        try simp (disch := omega) only [p3_f, p3_q, p3_o, u2_p3_o, pr_at, pr_off, u2_pr, wN hW, wO hW, wTu hW, wGi hW, wMi hW, wL0 hW, wL1 hW, wG0 hW, wG1 hW, wT hW, wH hW, uz_same, uz_ne, Nat.reduceAdd]
        refine ⟨by (refine ⟨?_, ?_⟩ <;> omega), ?_⟩
        have e := ih (j + 1) (by omega)
        rw [show (j + 1 - 1).toNat = (j - 1).toNat + 1 by omega, hbs] at e
        first
          | (rw [if_pos (by omega)] at e; exact e)
          | (rw [if_neg (by omega)] at e; exact e)
theorem D_bestCell {G : amG} {I : Nat → Nat → Int} {R : Nat → Nat → Option Nat} {L : Nat → Nat → Int64} {x c t : Nat} {Q : amR → amH → Prop} (hG : amG0 G) {b : Nat} (hB : wb b) (hRW : RW R b) {f q : Row} (hRC : RC R) (hRP : RP R 351) (htk : ∀ t : Nat, t < 96 → I 354 t = 0) {z : Row} (hW : WV I b z) (hb : wfB z) {v : Int} (hQ : ∀ f q s : Row, Q (Sum.inl (some (aI (bpS z v 95).1))) (p3 (pr I 355 s) 351 f q, R, L, SH, x, 0, 0)) : CT G sX0_bestCell [aR (some 350), aR (some b), aI v] (p3 I 351 f q, R, L, SH, x, c, t) Q := by
  refine CT_of ok_X0_bestCell hG (Nat.le_of_ble_eq_true rfl) ?_
  show X G mX0_bestCell Q 0 _ [] (p3 I 351 f q, R, L, SH, x, 0, 0)
  have hn1 := hb.2.1.1
  have hn2 := hb.2.1.2
  have hb1 := wb_le hB
  refine B_X0_bestCell_0 ?_
  try dsimp only
  refine ⟨sc0, _, hRC.2, ?_⟩
  refine ⟨⟨Nat.zero_le _, Nat.zero_le _, Nat.le_of_ble_eq_true rfl⟩, trivial, ?_⟩
  refine D_fill hG sc5 (by decide) ?_
  rw [pr_p3 _ _ _ _ _ (by decide)]
  refine af_N0 rfl rfl rfl ?_
  try dsimp only
  refine B_X0_bestCell_8 ?_
  try dsimp only
  refine L_bestA hG hB hRW hRC hRP htk hW hb (fun f2 q2 s2 hs => ?_) 13 0 f q _ (by omega) (fun c hc => ?_)
  refine B_X0_bestCell_67 ?_
  try dsimp only
  try simp (disch := omega) only [p3_f, p3_q, p3_o, u2_p3_o, pr_at, pr_off, u2_pr, wN hW, wO hW, wTu hW, wGi hW, wMi hW, wL0 hW, wL1 hW, wG0 hW, wG1 hW, wT hW, wH hW, uz_same, uz_ne, Nat.reduceAdd]
  have e := L_bestB hG hB hRW hRC hRP htk hW hb hs (hQ f2 q2 s2) 96 1 (by omega)
  rw [show ((1 : Int) - 1).toNat = 0 from rfl, bpS_0] at e
  exact e
  · rw [flN_at, if_pos hc]
    rfl
