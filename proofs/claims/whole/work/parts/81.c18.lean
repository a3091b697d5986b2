/-! ===== the class: turns pass ===== -/
/-- a war and the marshal's ways have changed -/
def FP (I J : Nat → Nat → Int) (b : Nat) : Prop := ∀ c : Nat, c < b ∨ b + 49 ≤ c → c ≠ 358 → c ≠ 359 → c ≠ 360 → J c = I c
theorem FP_refl (I : Nat → Nat → Int) (b : Nat) : FP I I b := fun _ _ _ _ _ => rfl
theorem FP_M {I J : Nat → Nat → Int} {b : Nat} (h : FM I J b) : FP I J b := fun c hc => h c (by omega)
theorem FP_trans {I J K : Nat → Nat → Int} {b : Nat} (h : FP I J b) (h2 : FP J K b) : FP I K b := fun c hc a1 a2 a3 => by rw [h2 c hc a1 a2 a3, h c hc a1 a2 a3]
theorem WO_keep {I J : Nat → Nat → Int} {b : Nat} {y z : Row} (h : WO I b z) (h30 : 0 ≤ z 195 ∧ z 195 ≤ 30) (hoc : ∀ n : Nat, n ≤ 30 → oc J b n = oc I b n) (hz : ∀ i : Nat, 195 ≤ i → i < 316 → y i = z i) : WO J b y := by
  unfold WO at h ⊢
  rw [hz 195 (by omega) (by omega), hoc _ (by omega), os_congr (y := y) (z := z) (fun i h1 h2 => hz i (by omega) (by omega))]
  exact h
theorem psA_C {z : Row} (h : WF z) (hm : z 316 ≤ 1060) : wfC (psA z) := by
  obtain ⟨b1, o1, i1, t1, k1, l1⟩ := psA_inv h
  have hC := h.2.2
  unfold wfC at hC ⊢
  have e17 := i1 317 (by omega)
  have e19 := i1 319 (by omega)
  have e20 := i1 320 (by omega)
  refine ⟨by omega, by omega, by omega, by omega, by omega, fun l hl => ?_⟩
  have := hC.2.2.2.2.2 l hl
  have := l1 l hl
  omega
theorem L_playS {G : amG} {I : Nat → Nat → Int} {R : Nat → Nat → Option Nat} {L : Nat → Nat → Int64} {x : Nat} {Q : amR → amH → Prop} (hG : amG0 G) {b : Nat} (hB : wb b) (hRW : RW R b) {w : Row} {u i : Int} (hbw : wfB w) (hK : ∀ J : Nat → Nat → Int, FO I J b → WV J b (setN w (w 98).toNat) → X G mX2_play Q 59 [some (aR (some 356)), some (aR (some b)), some (aI u), some (aI i), some (aI (w 98))] [] (J, R, L, SH, x, 0, 0)) :
    ∀ (n : Nat) (j : Int) (J : Nat → Nat → Int), (0 ≤ j ∧ j ≤ w 98 ∧ w 98 - j < n) → FO I J b → WV J b (setN w j.toNat) → X G mX2_play Q 33 [some (aR (some 356)), some (aR (some b)), some (aI u), some (aI i), some (aI j)] [] (J, R, L, SH, x, 0, 0) := by
  intro n
  induction n with
  | zero =>
    intros
    exfalso; omega
  | succ n ih =>
    intro j J h1 hF hJ
    have hn1 := hbw.2.1.1
    have hn2 := hbw.2.1.2
    have hb1 := wb_le hB
    obtain ⟨m1, m2, m3⟩ := setN_inv hbw j.toNat (by omega)
    have h98 := m2 98 (by omega)
    have hs := setN_s w j.toNat
    refine B_X2_play_33 ?_
    try dsimp only
    try simp (disch := omega) only [u2_same, u2_ne, wN hJ, wO hJ, wTu hJ, wGi hJ, wMi hJ, wL0 hJ, wL1 hJ, wG0 hJ, wG1 hJ, wT hJ, wH hJ, h98]
    refine ⟨sw0 hB, ?_⟩
    try simp (disch := omega) only [u2_same, u2_ne, wN hJ, wO hJ, wTu hJ, wGi hJ, wMi hJ, wL0 hJ, wL1 hJ, wG0 hJ, wG1 hJ, wT hJ, wH hJ, h98]
    refine ⟨fun c39_0 => ?_, fun c39_0 => ?_⟩
    · have e : j = w 98 := by omega
      rw [e] at hJ ⊢
      exact hK J hF hJ
    · refine ⟨sw0 hB, _, hRW.tr, ?_⟩
      refine ⟨_, _, sw4 hB, ⟨by decide, by decide⟩, ⟨by omega, by omega⟩, _, hRW.t (by omega), ?_⟩
      refine ⟨⟨Nat.zero_le _, Nat.zero_le _, Nat.le_of_ble_eq_true rfl⟩, trivial, ?_⟩
      refine D_steadyOrRout hG hB hRW hJ m1 (k := j) (by omega) (fun K hK2 wK => ?_)
      refine af_N0 rfl rfl rfl ?_
      try dsimp only
      try simp (disch := omega) only [u2_same, u2_ne, wN hJ, wO hJ, wTu hJ, wGi hJ, wMi hJ, wL0 hJ, wL1 hJ, wG0 hJ, wG1 hJ, wT hJ, wH hJ, h98]
      refine B_X2_play_53 ?_
      try dsimp only
      try simp (disch := omega) only [u2_same, u2_ne, wN hJ, wO hJ, wTu hJ, wGi hJ, wMi hJ, wL0 hJ, wL1 hJ, wG0 hJ, wG1 hJ, wT hJ, wH hJ, h98]
      refine ⟨by (refine ⟨?_, ?_⟩ <;> omega), ?_⟩
      refine ih (j + 1) _ (by omega) (FO_trans hF hK2) ?_
      rw [show (j + 1).toNat = j.toNat + 1 by omega, hs]
      exact wK
theorem L_play {G : amG} {I : Nat → Nat → Int} {R : Nat → Nat → Option Nat} {L : Nat → Nat → Int64} {x : Nat} {Q : amR → amH → Prop} (hG : amG0 G) {b : Nat} (hB : wb b) (hRW : RW R b) {z : Row} {u : Int} (hWF : WF z) (hu : 0 ≤ u ∧ z 316 + u ≤ 1061) (hRA : R 356 0 = some 357) (hRP : RP R 357) (hQ : ∀ J : Nat → Nat → Int, FP I J b → WV J b (passN z u.toNat) → WO J b (passN z u.toNat) → Q (Sum.inl none) (J, R, L, SH, x, 0, 0)) :
    ∀ (n : Nat) (j : Int) (J : Nat → Nat → Int) (l4 : Option amV), (0 ≤ j ∧ j ≤ u ∧ u - j < n) → FP I J b → WV J b (passN z j.toNat) → WO J b (passN z j.toNat) → X G mX2_play Q 2 [some (aR (some 356)), some (aR (some b)), some (aI u), some (aI j), l4] [] (J, R, L, SH, x, 0, 0) := by
  intro n
  induction n with
  | zero =>
    intros
    exfalso; omega
  | succ n ih =>
    intro j J l4 h1 hF hJ hO
    have h0C := hWF.2.2.1.1
    obtain ⟨hz1, hz2, hz3, hz4, hz5, hz6⟩ := passN_inv hWF j.toNat (by omega)
    have hs := passN_s z j.toNat
    have hb1 := wb_le hB
    have hn1 := hWF.1.2.1.1
    have hn2 := hWF.1.2.1.2
    have hQ' : j = u → FP I J b → Q (Sum.inl none) (J, R, L, SH, x, 0, 0) := fun e hf => by rw [e] at hJ hO; exact hQ J hf hJ hO
    generalize passN z j.toNat = w at *
    refine B_X2_play_2 ?_
    try dsimp only
    try simp (disch := omega) only [wTu hJ]
    refine ⟨fun c4_0 => ?_, fun c4_0 => ?_⟩
    · refine B_X2_play_65 ?_
      try dsimp only
      try simp (disch := omega) only [wTu hJ]
      refine ⟨rfl, ?_⟩
      exact hQ' (by omega) hF
    · refine ⟨rfl, ?_⟩
      refine ⟨sw0 hB, ?_⟩
      try simp (disch := omega) only [wTu hJ]
      refine ⟨by (refine ⟨?_, ?_⟩ <;> omega), ?_⟩
      refine ⟨sw0 hB, ?_⟩
      try simp (disch := omega) only [wTu hJ]
      refine ⟨⟨Nat.zero_le _, Nat.zero_le _, Nat.le_of_ble_eq_true rfl⟩, trivial, ?_⟩
      have hC := hz1.2.2
      unfold wfC at hC
      have y0 := tick_B hz1
      have e16 : uz w 316 (w 316 + 1) 316 = w 316 + 1 := uz_same _ _ _
      have e18 : uz w 316 (w 316 + 1) 318 = w 318 := uz_ne _ _ (by decide)
      have w1 := WV_tu hJ (by omega) (w 316 + 1)
      have o1 : WO (u2 J b 6 (w 316 + 1)) b (uz w 316 (w 316 + 1)) := WO_keep hO hz1.2.1.1 (fun n hn => FO_oc (FO_u2 (FO_refl J b) _ _ (by omega)) n) (fun i h1 h2 => uz_ne _ _ (by omega))
      refine D_bringOrders hG hB hRW w1 y0.1 o1 y0.2 (fun l hl => ?_) (by rw [e18]; omega) (fun F2 f2 w2 o2 => ?_)
      · have := hC.2.2.2.2.2 l hl
        rw [tf_off (by omega) hl (by decide)]
        omega
      have hz1' := psA_inv hz1
      have ec98 : comeAllZ (uz w 316 (w 316 + 1)) 98 = w 98 := by
        rw [(comeAll_all (wfO_12 y0.1.2.1 y0.2) y0.2.1).1 98 (by omega) (by decide)]
        exact uz_ne _ _ (by decide)
      refine af_N0 rfl rfl rfl ?_
      try dsimp only
      try simp (disch := omega) only [wTu hJ]
      refine B_X2_play_21 ?_
      try dsimp only
      try simp (disch := omega) only [wTu hJ]
      refine ⟨⟨Nat.zero_le _, Nat.zero_le _, Nat.le_of_ble_eq_true rfl⟩, sa0, ?_⟩
      refine D_march hG hB hRW w2 (comeAll_B y0.1 y0.2).1 hRA hRP (fun F3 f3 w3 => ?_)
      rw [ec98] at w3
      have w3 : WV F3 b (psA w) := w3
      refine af_N0 rfl rfl rfl ?_
      try dsimp only
      try simp (disch := omega) only [wTu hJ]
      refine B_X2_play_26 ?_
      try dsimp only
      try simp (disch := omega) only [wTu hJ]
      refine ⟨⟨Nat.zero_le _, Nat.zero_le _, Nat.le_of_ble_eq_true rfl⟩, trivial, ?_⟩
      refine D_fight hG hB hRW w3 hz1'.1 (psA_C hz1 (by omega)) (fun F4 f4 w4 => ?_)
      refine af_N0 rfl rfl rfl ?_
      try dsimp only
      try simp (disch := omega) only [wTu hJ]
      refine B_X2_play_30 ?_
      try dsimp only
      try simp (disch := omega) only [wTu hJ]
      have hbf := fightZ_B hz1'.1
      have hf98 := fightZ_off hz1'.1.2.1 hz1'.1.2.2.1 (i := 98) (by omega)
      have hp98 := hz1'.2.2.1 98 (by omega)
      have hpz : setN (fightZ (psA w)) (fightZ (psA w) 98).toNat = passZ w := by
        unfold passZ
        rw [hf98, hp98]
      refine L_playS hG hB hRW hbf (fun T hT wT => ?_) 13 0 F4 (by omega) (FO_refl F4 b) w4
      rw [hpz] at wT
      refine B_X2_play_59 ?_
      try dsimp only
      refine ⟨by (refine ⟨?_, ?_⟩ <;> omega), ?_⟩
      refine ih (j + 1) T _ (by omega) ?_ ?_ ?_
      · refine FP_trans hF (fun c hc a1 a2 a3 => ?_)
        rw [hT c (by omega), f4 c (by omega), f3 c (by omega) a1 a2 a3, f2 c (by omega), u2_off _ _ _ (by omega)]
      · rw [show (j + 1).toNat = j.toNat + 1 by omega, hs]
        exact wT
      · rw [show (j + 1).toNat = j.toNat + 1 by omega, hs]
        refine WO_keep (WO_keep o2 (by have := (comeAll_B y0.1 y0.2).2.1; omega) (fun n hn => by rw [FM_oc f3 (by omega) n hn]) (fun i h1 h2 => (mchN_inv (comeAll_B y0.1 y0.2).1 (w 98).toNat (by rw [ec98]; omega)).2.1 i (by omega))) hz1'.2.1.1 (fun n hn => by rw [FO_oc hT, FO_oc f4]) (fun i h1 h2 => ?_)
        unfold passZ
        rw [(setN_inv hbf (w 98).toNat (by omega)).2.1 i (by omega), fightZ_off hz1'.1.2.1 hz1'.1.2.2.1 (by omega)]
        rfl
theorem D_play {G : amG} {I : Nat → Nat → Int} {R : Nat → Nat → Option Nat} {L : Nat → Nat → Int64} {x c t : Nat} {Q : amR → amH → Prop} (hG : amG0 G) {b : Nat} (hB : wb b) (hRW : RW R b) {z : Row} (hW : WV I b z) {u : Int} (hO : WO I b z) (hWF : WF z) (hu : 0 ≤ u ∧ z 316 + u ≤ 1061) (hRA : R 356 0 = some 357) (hRP : RP R 357) (hQ : ∀ J : Nat → Nat → Int, FP I J b → WV J b (passN z u.toNat) → WO J b (passN z u.toNat) → Q (Sum.inl none) (J, R, L, SH, x, 0, 0)) : CT G sX2_play [aR (some 356), aR (some b), aI u] (I, R, L, SH, x, c, t) Q := by
  refine CT_of ok_X2_play hG (Nat.le_of_ble_eq_true rfl) ?_
  show X G mX2_play Q 0 _ [] (I, R, L, SH, x, 0, 0)
  refine B_X2_play_0 ?_
  try dsimp only
  exact L_play hG hB hRW hWF hu hRA hRP hQ (u.toNat + 1) 0 I none (by omega) (FP_refl I b) hW hO
