variable {sT : List (Nat × Nat)}
/-! ===== the class: orders and texts ===== -/
theorem CS_give {I J : Nat → Nat → Int} {R : Nat → Nat → Option Nat} {z : Row} {n : Int} {zs : Nat → Row} {k v : Int} (hC : CS I R z n zs) (hZ : ZF z) (hk : 0 ≤ k ∧ k < z 98) (hy : whyN z k.toNat = 0) (k1 : ∀ c : Nat, c < 20 ∨ 50 ≤ c → c ≠ 1 → c ≠ 352 → c ≠ 353 → J c = I c) (k2 : ∀ j : Nat, j ≠ 5 → j ≠ 7 → J 1 j = I 1 j) (k3 : J 1 5 = z 195 + 1) (k4 : J 1 7 = z 317 + 1) (k5 : oc J 1 (z 195 + 1).toNat = insR (oc I 1 (z 195).toNat) (z 317, k, v, z 316 + ordG z k.toNat)) : CS J R (giveZ z k v) n zs := by
  obtain ⟨h1, h2, h3, h4, h5, h6⟩ := hC
  have hzo := hZ.1.2.1.1
  have hn2 := hZ.1.1.2.1.2
  have hw := whyN_0 hy
  have h30 : 0 ≤ z 195 ∧ z 195 < 30 := by omega
  obtain ⟨g1, g2, g3, g4, g5⟩ := giveZ_at k v h30
  refine ⟨⟨fun j hj => ?_, ⟨?_, ?_⟩, ?_, ?_, ?_, ?_, ?_, ⟨?_, ?_⟩, fun l f hl hf => ?_⟩, ?_, ?_, h4, SV_off h5 h4.2 (fun c u1 u2 => k1 c (by omega) (by omega) (by omega) (by omega)), fun t ht => by rw [k1 354 (by omega) (by omega) (by omega) (by omega)]; exact h6 t ht⟩
  · rw [k1 _ (by omega) (by omega) (by omega) (by omega), g1 j (by omega)]; exact wH h1 j hj
  · rw [k1 _ (by omega) (by omega) (by omega) (by omega), g1 96 (by omega)]; exact wG0 h1
  · rw [k1 _ (by omega) (by omega) (by omega) (by omega), g1 97 (by omega)]; exact wG1 h1
  · rw [k2 _ (by omega) (by omega), g1 98 (by omega)]; exact wN h1
  · rw [k3, g2]
  · rw [k2 _ (by omega) (by omega), g1 316 (by omega)]; exact wTu h1
  · rw [k4, g3]
  · rw [k2 _ (by omega) (by omega), g1 318 (by omega)]; exact wMi h1
  · rw [k1 _ (by omega) (by omega) (by omega) (by omega), g1 319 (by omega)]; exact wL0 h1
  · rw [k1 _ (by omega) (by omega) (by omega) (by omega), g1 320 (by omega)]; exact wL1 h1
  · rw [g1 98 (by omega)] at hl
    rw [k1 _ (by omega) (by omega) (by omega) (by omega)]
    show _ = giveZ z k v (99 + 8 * l + f)
    rw [g1 _ (by omega)]
    exact wT h1 l f hl hf
  · unfold WO at h2 ⊢
    rw [giveZ_os k v h30, srt_snoc, g2, k5, h2]
  · rw [k1 99 (by omega) (by omega) (by omega) (by omega)]; exact h3
theorem D_sendOrder {G : amG} {I : Nat → Nat → Int} {R : Nat → Nat → Option Nat} {L : Nat → Nat → Int64} {x c t : Nat} {Q : amR → amH → Prop} (hG : amG0 G) (hRK : RK R) {z : Row} {n : Int} {zs : Nat → Row} (hC : CS I R z n zs) (hZ : ZF z) {k v : Int} (hk : 0 ≤ k ∧ k < z 98) (hv : isC v) (hy : whyN z k.toNat = 0) (hQ : ∀ J : Nat → Nat → Int, (∀ c : Nat, c < 1 ∨ 50 ≤ c → c ≠ 352 → c ≠ 353 → J c = I c) → CS J R (giveZ z k v) n zs → Q (Sum.inl (some (aI (ordG z k.toNat)))) (J, R, L, (SH sT), x, 0, 0)) : CT G sX9_sendOrder [aR (some 0), aI k, aI v] (I, R, L, (SH sT), x, c, t) Q := by
  refine CT_of ok_X9_sendOrder hG (Nat.le_of_ble_eq_true rfl) ?_
  show X G mX9_sendOrder Q 0 _ [] (I, R, L, (SH sT), x, 0, 0)
  have hn1 := hZ.1.1.2.1.1
  have hn2 := hZ.1.1.2.1.2
  have hzo := hZ.1.2.1.1
  have hzC := hZ.1.2.2
  unfold wfC at hzC
  have hzm := hZ.2.1
  refine B_X9_sendOrder_0 ?_
  try dsimp only
  try simp (disch := omega) only [p3_o, wTu hC.1]
  refine ⟨so0, _, (by first | exact hRK2.x.2.2.2.2.1 | exact hRK.x.2.2.2.2.1), ?_⟩
  refine ⟨so0, _, (by first | exact hRK2.x.1 | exact hRK.x.1), ?_⟩
  refine ⟨⟨Nat.zero_le _, Nat.zero_le _, Nat.le_of_ble_eq_true rfl⟩, sc0, ?_⟩
  rw [← p3_self I 351]
  refine D_turnsTo hG w1 (hRK.w w1) hRK.c hRK.p1 hC.2.2.2.2.2 hC.1 hZ.1.1 hk (fun f2 q2 => ?_)
  have hpos : 1 ≤ ordG z k.toNat ∧ ordG z k.toNat ≤ 33 := (ordT_pos (wfG_g hZ.1.1.2.2.2.2.1 (hZ.1.1.2.2.1 k.toNat (by omega)).1) (hZ.1.1.2.2.1 k.toNat (by omega))).resolve_left (whyN_0 hy).2.1
  
  refine af_I0 rfl rfl (by decide) ?_
  try dsimp only
  try simp (disch := omega) only [p3_o, wTu hC.1]
  refine B_X9_sendOrder_12 ?_
  try dsimp only
  try simp (disch := omega) only [p3_o, wTu hC.1]
  refine ⟨so0, _, (by first | exact hRK2.x.1 | exact hRK.x.1), ?_⟩
  refine ⟨so0, _, (by first | exact hRK2.x.1 | exact hRK.x.1), ?_⟩
  refine ⟨sw0 w1, ?_⟩
  try simp (disch := omega) only [p3_o, wTu hC.1]
  have hoc : oc (p3 I 351 f2 q2) 1 (z 195).toNat = oc I 1 (z 195).toNat := oc_congr (fun i hi => by
    unfold odC
    rw [p3_o _ _ _ _ (by omega)])
  refine ⟨by (refine ⟨?_, ?_⟩ <;> omega), ?_⟩
  refine ⟨⟨Nat.zero_le _, Nat.zero_le _, Nat.le_of_ble_eq_true rfl⟩, sw0 w1, ?_⟩
  refine D_enqueue hG w1 (hRK.w w1) (I := p3 I 351 f2 q2) (m := z 195) (w := z 317) (by have := (whyN_0 hy).2.2; omega) (by omega) (by rw [p3_o _ _ _ _ (by decide)]; exact wO hC.1) (by rw [p3_o _ _ _ _ (by decide)]; exact wGi hC.1) (by rw [hoc]; rw [hC.2.1]; exact srt_sd _) (fun J k1 k2 k3 k4 k5 => ?_)
  refine af_N0 rfl rfl rfl ?_
  try dsimp only
  try simp (disch := omega) only [p3_o, wTu hC.1]
  refine B_X9_sendOrder_31 ?_
  try dsimp only
  try simp (disch := omega) only [p3_o, wTu hC.1]
  refine hQ J (fun c h1 h2 h3 => by rw [k1 c (by omega) (by omega), p3_o _ _ _ _ (by omega)]) (CS_give hC hZ hk hy (fun c h1 h2 h3 h4 => by rw [k1 c h1 h2, p3_o _ _ _ _ (by omega)]) (fun j h1 h2 => by rw [k2 j h1 h2, p3_o _ _ _ _ (by decide)]) k3 k4 ?_)
  rw [← hoc]
  exact k5
theorem D_order {G : amG} {I : Nat → Nat → Int} {R : Nat → Nat → Option Nat} {L : Nat → Nat → Int64} {x c t : Nat} {Q : amR → amH → Prop} (hG : amG0 G) (hRK : RK R) {z : Row} {n : Int} {zs : Nat → Row} (hC : CS I R z n zs) (hZ : ZF z) {k v : Int} (hT0 : ¬ ((0 ≤ k ∧ k < z 98) ∧ 0 ≤ v ∧ v ≤ 95) → QW sT Q I L x (Sum.inr 0) z n zs) (hT2 : ((0 ≤ k ∧ k < z 98) ∧ 0 ≤ v ∧ v ≤ 95) ∧ whyN z k.toNat ≠ 0 → QW sT Q I L x (Sum.inr 2) z n zs) (hQ : ((0 ≤ k ∧ k < z 98) ∧ 0 ≤ v ∧ v ≤ 95) ∧ whyN z k.toNat = 0 → QW sT Q I L x (Sum.inl (some (aI (ordG z k.toNat)))) (giveZ z k v) (svN n) (svZ n zs z)) : CT G sX9_order [aR (some 0), aI k, aI v] (I, R, L, (SH sT), x, c, t) Q := by
  refine CT_of ok_X9_order hG (Nat.le_of_ble_eq_true rfl) ?_
  show X G mX9_order Q 0 _ [] (I, R, L, (SH sT), x, 3, 18)
  have hn1 := hZ.1.1.2.1.1
  have hn2 := hZ.1.1.2.1.2
  have hzo := hZ.1.2.1.1
  have hzC := hZ.1.2.2
  unfold wfC at hzC
  have hzm := hZ.2.1
  refine B_X9_order_0 ?_
  try dsimp only
  refine ⟨⟨by omega, by omega, Nat.le_of_ble_eq_true rfl⟩, so0, ?_⟩
  refine D_needTroop hG hRK (wN hC.1) (fun hb c2 t2 => ?_) (fun hok1 c2 t2 => ?_)
  · refine af_X rfl (fun c3 t3 => ?_)
    exact hT0 (fun y => hb y.1) I R _ _ (fun _ _ => rfl) rfl rfl hRK hC
  refine af_N (cc := 1) (tt := 6) rfl rfl rfl ?_
  try dsimp only
  refine B_X9_order_5 ?_
  try dsimp only
  refine ⟨⟨by omega, by omega, Nat.le_of_ble_eq_true rfl⟩, trivial, ?_⟩
  refine D_needCell hG (fun hb c2 t2 => ?_) (fun hok2 c2 t2 => ?_)
  · refine af_X rfl (fun c3 t3 => ?_)
    exact hT0 (fun y => hb y.2) I R _ _ (fun _ _ => rfl) rfl rfl hRK hC
  refine af_N (cc := 1) (tt := 6) rfl rfl rfl ?_
  try dsimp only
  refine B_X9_order_9 ?_
  try dsimp only
  refine ⟨so0, _, (by first | exact hRK2.x.2.2.2.2.1 | exact hRK.x.2.2.2.2.1), ?_⟩
  refine ⟨so0, _, (by first | exact hRK2.x.1 | exact hRK.x.1), ?_⟩
  refine ⟨⟨Nat.zero_le _, Nat.zero_le _, Nat.le_of_ble_eq_true rfl⟩, sc0, ?_⟩
  rw [← p3_self I 351]
  refine D_refusal hG w1 (hRK.w w1) hRK.c hRK.p1 hC.2.2.2.2.2 hC.1 hZ.1.1 hok1 hzo (fun f2 q2 => ?_)
  have hC3 : CS (p3 I 351 f2 q2) R z n zs := CS_off hC hZ (fun c hc => p3_o _ _ _ _ (by omega))
  refine af_I0 rfl rfl (by decide) ?_
  try dsimp only
  refine B_X9_order_21 ?_
  try dsimp only
  refine ⟨fun c21_3 => ?_, fun c21_3 => ?_⟩
  · refine B_X9_order_34 ?_
    try dsimp only
    refine ⟨so0, _, (by first | exact hRK2.x.2.2.1 | exact hRK.x.2.2.1), ?_⟩
    refine ⟨so0, _, (by first | exact hRK2.x.1 | exact hRK.x.1), ?_⟩
    refine ⟨⟨Nat.zero_le _, Nat.zero_le _, Nat.le_of_ble_eq_true rfl⟩, sh99, ?_⟩
    refine D_saveCS hG hRK hC3 hZ (fun J1 R1 j1 hRK2 hC2 => ?_)
    refine af_N0 rfl rfl rfl ?_
    try dsimp only
    refine B_X9_order_45 ?_
    try dsimp only
    refine ⟨⟨Nat.zero_le _, Nat.zero_le _, Nat.le_of_ble_eq_true rfl⟩, so0, ?_⟩
    refine D_sendOrder hG hRK2 hC2 hZ hok1 (by unfold isC; omega) (by omega) (fun J2 j2 hC4 => ?_)
    refine af_I0 rfl rfl (by decide) ?_
    try dsimp only
    refine B_X9_order_51 ?_
    try dsimp only
    refine hQ ⟨by omega, by omega⟩ J2 R1 _ _ (fun a ha => ?_) ?_ ?_ hRK2 hC4
    · rw [j2 a (by omega) (by omega) (by omega), j1 a (by omega), p3_o _ _ _ _ (by omega)]
    · rw [j2 346 (by omega) (by decide) (by decide), j1 346 (by omega), p3_o _ _ _ _ (by decide)]
    · rw [j2 347 (by omega) (by decide) (by decide), j1 347 (by omega), p3_o _ _ _ _ (by decide)]
  · refine ⟨⟨by omega, by omega, Nat.le_of_ble_eq_true rfl⟩, ?_⟩
    exact hT2 ⟨⟨by omega, by omega⟩, by assumption⟩ (p3 I 351 f2 q2) R _ _ (fun a ha => p3_o _ _ _ _ (by omega)) (p3_o _ _ _ _ (by decide)) (p3_o _ _ _ _ (by decide)) hRK hC3
