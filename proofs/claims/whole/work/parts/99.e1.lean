/-! ===== the law's other calls ===== -/
theorem S_append {G : amG} {Q : amR → amH → Prop} {x0 : Nat} {x4 k : Int} {o5 o6 o7 : Option amV} {I : Nat → Nat → Int} {R : Nat → Nat → Option Nat} {L : Nat → Nat → Int64} {x c t : Nat} (hG : amG0 G) (h0 : x0 = gb G) (hg : gn G ≤ 2048) (h4 : 0 ≤ x4 ∧ x4 + 3 < gn G) (hk : 0 ≤ k ∧ k < 600) (hI : LI k I R) (hc : 3 ≤ c ∧ 18 ≤ t) (hK : ∀ (K : Nat → Nat → Int) (R1 : Nat → Nat → Option Nat) (L1 : Nat → Nat → Int64) (x1 c1 t1 : Nat) (p5 p6 p7 : Option amV), LI (k + 1) K R1 → c ≤ c1 + 3 → t ≤ t1 + 18 → X G mL_law Q 1356 [some (aO x0), some (aR (some 0)), some (aR (some 361)), some (aR (some 369)), some (aI x4), p5, p6, p7, none] [] (K, R1, L1, SH, x1, c1, t1)) : X G mL_law Q 492 [some (aO x0), some (aR (some 0)), some (aR (some 361)), some (aR (some 369)), some (aI x4), o5, o6, o7, none] [] (I, R, L, SH, x, c, t) := by
  obtain ⟨zs, hJ⟩ := hI
  have hR : RK R := hJ.1
  have hC : CS I R (I 362) (I 361 2) zs := hJ.2.1
  have hz : ZK k (I 362) := hJ.2.2.1
  have hZ : ZF (I 362) := hz.f (by omega)
  have hx : I 346 1 = I 361 4 := hJ.2.2.2.2.2.1
  have hl : 0 ≤ I 361 4 ∧ I 361 4 ≤ 60 := hJ.2.2.2.2.2.2.1
  have ht : ∀ j : Nat, j < 60 → 0 ≤ I 364 j ∧ I 364 j ≤ 1000 := hJ.2.2.2.2.2.2.2
  have h347 : I 347 = I 364 := hJ.2.2.2.2.1
  refine B_L_law_492 ?_
  try dsimp only
  refine ⟨by (refine ⟨?_, ?_⟩ <;> omega), h0, ⟨by omega, by omega⟩, ⟨by omega, by omega, Nat.le_of_ble_eq_true rfl⟩, True.intro, ?_⟩
  refine E_append hG hR hC hZ (by rw [hx]; exact hl) ?_ ?_ ?_
  · intro p J R' x' c' t' j1 j2 j3 j4 j5
    have e1 : J 361 = I 361 := j1 361 (by decide)
    have e4 : J 361 4 = I 361 4 := by rw [e1]
    have e2 : J 361 2 = I 361 2 := by rw [e1]
    have e363 : J 363 = I 363 := j1 363 (by decide)
    have e364 : J 364 = I 364 := j1 364 (by decide)
    refine af_I (cc := 1) (tt := 6) rfl rfl (by decide) ?_
    try dsimp only
    refine B_L_law_503 ?_
    try dsimp only
    refine ⟨by (refine ⟨?_, ?_⟩ <;> omega), h0, ⟨by omega, by omega⟩, ⟨Nat.zero_le _, Nat.zero_le _, Nat.le_of_ble_eq_true rfl⟩, sh361, ?_⟩
    refine CT_m3 (j1 362 (by decide)) ?_
    refine C_append hG j4.m (by rw [e1]; exact hl) ⟨fun p2 => ?_, fun p2 => ?_, fun p2 => ?_⟩
    · refine af_I0 rfl rfl (by decide) ?_
      try dsimp only
      exact T_append hG (m3_0 _ _ _ _ _) (fun h => absurd h (by decide)) (fun p5 p6 p7 => hK _ _ _ _ _ _ p5 p6 p7 (LJ_i hJ hk.2 j1 j2 j3 j4 j5 _ _ _) (by omega) (by omega))
    · exfalso; omega
    · exfalso; omega
  · intro p J R' x' c' t' j1 j2 j3 j4 j5
    have e1 : J 361 = I 361 := j1 361 (by decide)
    have e4 : J 361 4 = I 361 4 := by rw [e1]
    have e2 : J 361 2 = I 361 2 := by rw [e1]
    have e363 : J 363 = I 363 := j1 363 (by decide)
    have e364 : J 364 = I 364 := j1 364 (by decide)
    refine af_I (cc := 1) (tt := 6) rfl rfl (by decide) ?_
    try dsimp only
    refine B_L_law_503 ?_
    try dsimp only
    refine ⟨by (refine ⟨?_, ?_⟩ <;> omega), h0, ⟨by omega, by omega⟩, ⟨Nat.zero_le _, Nat.zero_le _, Nat.le_of_ble_eq_true rfl⟩, sh361, ?_⟩
    refine CT_m3 (j1 362 (by decide)) ?_
    refine C_append hG j4.m (by rw [e1]; exact hl) ⟨fun p2 => ?_, fun p2 => ?_, fun p2 => ?_⟩
    · exfalso; omega
    · refine af_I0 rfl rfl (by decide) ?_
      try dsimp only
      exact T_append hG (m3_0 _ _ _ _ _) (fun h => absurd h (by decide)) (fun p5 p6 p7 => hK _ _ _ _ _ _ p5 p6 p7 (LJ_i hJ hk.2 j1 j2 j3 j4 j5 _ _ _) (by omega) (by omega))
    · exfalso; omega
  · intro p J R' x' c' t' j1 j2 j3 j4 j5
    have e1 : J 361 = I 361 := j1 361 (by decide)
    have e4 : J 361 4 = I 361 4 := by rw [e1]
    have e2 : J 361 2 = I 361 2 := by rw [e1]
    have e363 : J 363 = I 363 := j1 363 (by decide)
    have e364 : J 364 = I 364 := j1 364 (by decide)
    refine af_I (cc := 1) (tt := 6) rfl rfl (by decide) ?_
    try dsimp only
    refine B_L_law_503 ?_
    try dsimp only
    refine ⟨by (refine ⟨?_, ?_⟩ <;> omega), h0, ⟨by omega, by omega⟩, ⟨Nat.zero_le _, Nat.zero_le _, Nat.le_of_ble_eq_true rfl⟩, sh361, ?_⟩
    refine CT_m3 (j1 362 (by decide)) ?_
    refine C_append hG j4.m (by rw [e1]; exact hl) ⟨fun p2 => ?_, fun p2 => ?_, fun p2 => ?_⟩
    · exfalso; omega
    · exfalso; omega
    · refine af_I0 rfl rfl (by decide) ?_
      try dsimp only
      refine T_append hG ?_ (fun _ => ?_) (fun p5 p6 p7 => ?_)
      · rw [m3_o _ _ _ _ ⟨by decide, by decide, by decide⟩, u2_at, uz_ne _ _ (by decide), u2_off _ _ _ (by decide), u2_at, uz_same]
      · rw [u2_same, e4, hx]
      · refine hK _ _ _ _ _ _ p5 p6 p7 ?_ (by omega) (by omega)
        refine LI_core (z := I 362) (n := I 361 2) (zs := zs) (by omega) j4 j5 (ZK_up hz (by omega)) (fun i hi => ⟨ZK_up (hJ.2.2.2.1 i hi).1 (by omega), ?_⟩) (fun a ha => ?_) ?_ ?_ ?_ ?_ ?_ (fun j hj => ?_)
        · rw [m3_o _ _ _ _ ⟨by decide, by decide, by decide⟩, u2_off _ _ _ (by decide), u2_off _ _ _ (by decide), u2_off _ _ _ (by decide), e363]; exact (hJ.2.2.2.1 i hi).2
        · rw [m3_o _ _ _ _ ⟨by omega, by omega, by omega⟩, u2_off _ _ _ (by omega), u2_off _ _ _ (by omega), u2_off _ _ _ (by omega)]
        · exact m3_z _ _ _ _
        · rw [m3_o _ _ _ _ ⟨by decide, by decide, by decide⟩, u2_at, uz_ne _ _ (by decide), u2_off _ _ _ (by decide), u2_at, uz_ne _ _ (by decide), e1]
        · rw [j3, h347, hx, m3_o _ _ _ _ ⟨by decide, by decide, by decide⟩, u2_off _ _ _ (by decide), u2_at, u2_off _ _ _ (by decide), e364, e4]
        · rw [j2, hx, m3_o _ _ _ _ ⟨by decide, by decide, by decide⟩, u2_at, uz_same, e4]
        · rw [m3_o _ _ _ _ ⟨by decide, by decide, by decide⟩, u2_at, uz_same, e4]; omega
        · rw [m3_o _ _ _ _ ⟨by decide, by decide, by decide⟩, u2_off _ _ _ (by decide), u2_at, u2_off _ _ _ (by decide), e364]
          by_cases e : j = (J 361 4).toNat
          · rw [e, uz_same]; omega
          · rw [uz_ne _ _ e]; exact ht j hj
theorem S_clearBuffer {G : amG} {Q : amR → amH → Prop} {x0 : Nat} {x4 k : Int} {o5 o6 o7 : Option amV} {I : Nat → Nat → Int} {R : Nat → Nat → Option Nat} {L : Nat → Nat → Int64} {x c t : Nat} (hG : amG0 G) (h0 : x0 = gb G) (hg : gn G ≤ 2048) (h4 : 0 ≤ x4 ∧ x4 + 3 < gn G) (hk : 0 ≤ k ∧ k < 600) (hI : LI k I R) (hc : 3 ≤ c ∧ 18 ≤ t) (hK : ∀ (K : Nat → Nat → Int) (R1 : Nat → Nat → Option Nat) (L1 : Nat → Nat → Int64) (x1 c1 t1 : Nat) (p5 p6 p7 : Option amV), LI (k + 1) K R1 → c ≤ c1 + 3 → t ≤ t1 + 18 → X G mL_law Q 1356 [some (aO x0), some (aR (some 0)), some (aR (some 361)), some (aR (some 369)), some (aI x4), p5, p6, p7, none] [] (K, R1, L1, SH, x1, c1, t1)) : X G mL_law Q 548 [some (aO x0), some (aR (some 0)), some (aR (some 361)), some (aR (some 369)), some (aI x4), o5, o6, o7, none] [] (I, R, L, SH, x, c, t) := by
  obtain ⟨zs, hJ⟩ := hI
  have hR : RK R := hJ.1
  have hC : CS I R (I 362) (I 361 2) zs := hJ.2.1
  have hz : ZK k (I 362) := hJ.2.2.1
  have hZ : ZF (I 362) := hz.f (by omega)
  have hx : I 346 1 = I 361 4 := hJ.2.2.2.2.2.1
  have hl : 0 ≤ I 361 4 ∧ I 361 4 ≤ 60 := hJ.2.2.2.2.2.2.1
  have ht : ∀ j : Nat, j < 60 → 0 ≤ I 364 j ∧ I 364 j ≤ 1000 := hJ.2.2.2.2.2.2.2
  have h347 : I 347 = I 364 := hJ.2.2.2.2.1
  refine B_L_law_548 ?_
  try dsimp only
  refine ⟨⟨Nat.zero_le _, Nat.zero_le _, Nat.le_of_ble_eq_true rfl⟩, so0, ?_⟩
  refine D_clearBuffer hG hR hC hZ ?_
  intro J R' x' c' t' j1 j2 j3 j4 j5
  have e1 : J 361 = I 361 := j1 361 (by decide)
  have e4 : J 361 4 = I 361 4 := by rw [e1]
  have e2 : J 361 2 = I 361 2 := by rw [e1]
  have e363 : J 363 = I 363 := j1 363 (by decide)
  have e364 : J 364 = I 364 := j1 364 (by decide)
  refine af_I0 rfl rfl (by decide) ?_
  try dsimp only
  refine B_L_law_552 ?_
  try dsimp only
  refine ⟨⟨Nat.zero_le _, Nat.zero_le _, Nat.le_of_ble_eq_true rfl⟩, sh361, ?_⟩
  refine CT_m3 (j1 362 (by decide)) ?_
  refine C_clearBuffer hG j4.m ?_
  refine af_I0 rfl rfl (by decide) ?_
  try dsimp only
  refine B_L_law_556 ⟨fun _ => ?_, fun q => ?_⟩
  · refine hK _ _ _ _ _ _ _ _ _ ?_ (by omega) (by omega)
    refine LI_core (z := I 362) (n := I 361 2) (zs := zs) (by omega) j4 j5 (ZK_up hz (by omega)) (fun i hi => ⟨ZK_up (hJ.2.2.2.1 i hi).1 (by omega), ?_⟩) (fun a ha => ?_) ?_ ?_ ?_ ?_ ?_ (fun j hj => ?_)
    · rw [m3_o _ _ _ _ ⟨by decide, by decide, by decide⟩, u2_off _ _ _ (by decide), u2_off _ _ _ (by decide), e363]; exact (hJ.2.2.2.1 i hi).2
    · rw [m3_o _ _ _ _ ⟨by omega, by omega, by omega⟩, u2_off _ _ _ (by omega), u2_off _ _ _ (by omega)]
    · exact m3_z _ _ _ _
    · rw [m3_o _ _ _ _ ⟨by decide, by decide, by decide⟩, u2_at, uz_ne _ _ (by decide), u2_at, uz_ne _ _ (by decide), e1]
    · rw [j3, h347, m3_o _ _ _ _ ⟨by decide, by decide, by decide⟩, u2_off _ _ _ (by decide), u2_off _ _ _ (by decide), e364]
    · rw [j2, m3_o _ _ _ _ ⟨by decide, by decide, by decide⟩, u2_at, uz_same]
    · rw [m3_o _ _ _ _ ⟨by decide, by decide, by decide⟩, u2_at, uz_same]; exact ⟨by decide, by decide⟩
    · rw [m3_o _ _ _ _ ⟨by decide, by decide, by decide⟩, u2_off _ _ _ (by decide), u2_off _ _ _ (by decide), e364]; exact ht j hj
  · exfalso; omega
theorem S_firstError {G : amG} {Q : amR → amH → Prop} {x0 : Nat} {x4 k : Int} {o5 o6 o7 : Option amV} {I : Nat → Nat → Int} {R : Nat → Nat → Option Nat} {L : Nat → Nat → Int64} {x c t : Nat} (hG : amG0 G) (h0 : x0 = gb G) (hg : gn G ≤ 2048) (h4 : 0 ≤ x4 ∧ x4 + 3 < gn G) (hk : 0 ≤ k ∧ k < 600) (hI : LI k I R) (hc : 3 ≤ c ∧ 18 ≤ t) (hK : ∀ (K : Nat → Nat → Int) (R1 : Nat → Nat → Option Nat) (L1 : Nat → Nat → Int64) (x1 c1 t1 : Nat) (p5 p6 p7 : Option amV), LI (k + 1) K R1 → c ≤ c1 + 3 → t ≤ t1 + 18 → X G mL_law Q 1356 [some (aO x0), some (aR (some 0)), some (aR (some 361)), some (aR (some 369)), some (aI x4), p5, p6, p7, none] [] (K, R1, L1, SH, x1, c1, t1)) : X G mL_law Q 561 [some (aO x0), some (aR (some 0)), some (aR (some 361)), some (aR (some 369)), some (aI x4), o5, o6, o7, none] [] (I, R, L, SH, x, c, t) := by
  obtain ⟨zs, hJ⟩ := hI
  have hR : RK R := hJ.1
  have hC : CS I R (I 362) (I 361 2) zs := hJ.2.1
  have hz : ZK k (I 362) := hJ.2.2.1
  have hZ : ZF (I 362) := hz.f (by omega)
  have hx : I 346 1 = I 361 4 := hJ.2.2.2.2.2.1
  have hl : 0 ≤ I 361 4 ∧ I 361 4 ≤ 60 := hJ.2.2.2.2.2.2.1
  have ht : ∀ j : Nat, j < 60 → 0 ≤ I 364 j ∧ I 364 j ≤ 1000 := hJ.2.2.2.2.2.2.2
  have h347 : I 347 = I 364 := hJ.2.2.2.2.1
  refine B_L_law_561 ?_
  try dsimp only
  refine ⟨⟨Nat.zero_le _, Nat.zero_le _, Nat.le_of_ble_eq_true rfl⟩, so0, ?_⟩
  refine D_firstError hG hR hC hZ (by rw [hx]; exact hl) ?_
  intro d d1 d2 d3 J R' x' c' t' j1 j2 j3 j4 j5
  have e1 : J 361 = I 361 := j1 361 (by decide)
  have e4 : J 361 4 = I 361 4 := by rw [e1]
  have e2 : J 361 2 = I 361 2 := by rw [e1]
  have e363 : J 363 = I 363 := j1 363 (by decide)
  have e364 : J 364 = I 364 := j1 364 (by decide)
  refine af_I0 rfl rfl (by decide) ?_
  try dsimp only
  refine B_L_law_565 ?_
  try dsimp only
  refine ⟨⟨Nat.zero_le _, Nat.zero_le _, Nat.le_of_ble_eq_true rfl⟩, sh361, ?_⟩
  refine CT_m3 (j1 362 (by decide)) ?_
  refine C_firstError hG j4.m (by rw [e1]; exact hl) (by rw [e364]; exact ht) (fun d' s u1 u2' u3 => ?_)
  refine af_I0 rfl rfl (by decide) ?_
  try dsimp only
  have hE : d = d' := by
    rw [h347, ← e364] at d2 d3
    rw [hx, ← e4] at d1 d3
    have hle : d' ≤ d := by
      rcases Nat.lt_or_ge d d' with r | r
      · exfalso
        obtain ⟨s3, h3⟩ := pS_mono d' u2' (d + 1) (by omega)
        have w := (sgN_is (J 364) (J 368) (d + 1)).1 s3 h3
        have w2 : 0 ≤ stgS s3 := stg_b.1
        rcases d3 with q | q
        · omega
        · omega
      · exact r
    refine (end_uniq u2' hle d2 ?_).symm
    rcases u3 with q | q
    · exact Or.inl (by omega)
    · exact Or.inr q
  refine B_L_law_569 ⟨fun _ => ?_, fun q => ?_⟩
  · refine hK _ _ _ _ _ _ _ _ _ ?_ (by omega) (by omega)
    refine LJ_same hJ hk.2 j1 j2 j3 j4 j5 (fun a ha => ?_) ?_ ?_ ?_ ?_ ?_
    · rw [m3_o _ _ _ _ ⟨by omega, by omega, by omega⟩, txH_o _ _ _ _ _ ⟨by omega, by omega⟩, u2_off _ _ _ (by omega)]
    · rw [m3_z, j1 362 (by decide)]
    · rw [m3_o _ _ _ _ ⟨by decide, by decide, by decide⟩, txH_o _ _ _ _ _ ⟨by decide, by decide⟩, u2_off _ _ _ (by decide)]
    · rw [m3_o _ _ _ _ ⟨by decide, by decide, by decide⟩, txH_o _ _ _ _ _ ⟨by decide, by decide⟩, u2_off _ _ _ (by decide)]
    · rw [m3_o _ _ _ _ ⟨by decide, by decide, by decide⟩, txH_f _ _ _ _ _ ⟨by decide, by decide, by decide⟩, u2_at, uz_ne _ _ (by decide)]
    · rw [m3_o _ _ _ _ ⟨by decide, by decide, by decide⟩, txH_f _ _ _ _ _ ⟨by decide, by decide, by decide⟩, u2_at, uz_ne _ _ (by decide)]
  · exfalso; omega
theorem S_load {G : amG} {Q : amR → amH → Prop} {x0 : Nat} {x4 k : Int} {o5 o6 o7 : Option amV} {I : Nat → Nat → Int} {R : Nat → Nat → Option Nat} {L : Nat → Nat → Int64} {x c t : Nat} (hG : amG0 G) (h0 : x0 = gb G) (hg : gn G ≤ 2048) (h4 : 0 ≤ x4 ∧ x4 + 3 < gn G) (hk : 0 ≤ k ∧ k < 600) (hI : LI k I R) (hc : 3 ≤ c ∧ 18 ≤ t) (hK : ∀ (K : Nat → Nat → Int) (R1 : Nat → Nat → Option Nat) (L1 : Nat → Nat → Int64) (x1 c1 t1 : Nat) (p5 p6 p7 : Option amV), LI (k + 1) K R1 → c ≤ c1 + 3 → t ≤ t1 + 18 → X G mL_law Q 1356 [some (aO x0), some (aR (some 0)), some (aR (some 361)), some (aR (some 369)), some (aI x4), p5, p6, p7, none] [] (K, R1, L1, SH, x1, c1, t1)) : X G mL_law Q 574 [some (aO x0), some (aR (some 0)), some (aR (some 361)), some (aR (some 369)), some (aI x4), o5, o6, o7, none] [] (I, R, L, SH, x, c, t) := by
  obtain ⟨zs, hJ⟩ := hI
  have hR : RK R := hJ.1
  have hC : CS I R (I 362) (I 361 2) zs := hJ.2.1
  have hz : ZK k (I 362) := hJ.2.2.1
  have hZ : ZF (I 362) := hz.f (by omega)
  have hx : I 346 1 = I 361 4 := hJ.2.2.2.2.2.1
  have hl : 0 ≤ I 361 4 ∧ I 361 4 ≤ 60 := hJ.2.2.2.2.2.2.1
  have ht : ∀ j : Nat, j < 60 → 0 ≤ I 364 j ∧ I 364 j ≤ 1000 := hJ.2.2.2.2.2.2.2
  have h347 : I 347 = I 364 := hJ.2.2.2.2.1
  refine B_L_law_574 ?_
  try dsimp only
  refine ⟨⟨by omega, by omega, Nat.le_of_ble_eq_true rfl⟩, True.intro, ?_⟩
  have hk3 := hz.2.2
  refine E_load (r0 := I 368) hG hR hC hZ (by omega) (by rw [hx]; exact hl) (by rw [h347]; exact ht) ?_ ?_
  · intro p J R' x' c' t' j1 j2 j3 j4 j5
    have e1 : J 361 = I 361 := j1 361 (by decide)
    have e4 : J 361 4 = I 361 4 := by rw [e1]
    have e2 : J 361 2 = I 361 2 := by rw [e1]
    have e363 : J 363 = I 363 := j1 363 (by decide)
    have e364 : J 364 = I 364 := j1 364 (by decide)
    refine af_I (cc := 1) (tt := 6) rfl rfl (by decide) ?_
    try dsimp only
    refine B_L_law_579 ?_
    try dsimp only
    refine ⟨⟨Nat.zero_le _, Nat.zero_le _, Nat.le_of_ble_eq_true rfl⟩, sh361, ?_⟩
    refine CT_m3 (j1 362 (by decide)) ?_
    refine C_load hG j4.m hz.1 hz.2.1 (by omega) (by rw [e1]; exact hC.2.2.2.1) (by rw [e1]; exact hl) (by rw [e364]; exact ht) ⟨fun a s2 a1 a2 a3 a4 => ?_, fun s2 a1 a2 m2 f q b1 b2 b3 => ?_⟩
    · refine af_I0 rfl rfl (by decide) ?_
      try dsimp only
      refine T_load hG ?_ (fun h => absurd h (by decide)) (fun p5 p6 p7 => ?_)
      · rw [m3_o _ _ _ _ ⟨by decide, by decide, by decide⟩, u2_at, uz_same]
      · refine hK _ _ _ _ _ _ p5 p6 p7 ?_ (by omega) (by omega)
        refine LJ_same hJ hk.2 j1 j2 j3 j4 j5 (fun a ha => ?_) ?_ ?_ ?_ ?_ ?_
        · rw [m3_o _ _ _ _ ⟨by omega, by omega, by omega⟩, u2_off _ _ _ (by omega), txH_o _ _ _ _ _ ⟨by omega, by omega⟩]
        · rw [m3_z, j1 362 (by decide)]
        · rw [m3_o _ _ _ _ ⟨by decide, by decide, by decide⟩, u2_off _ _ _ (by decide), txH_o _ _ _ _ _ ⟨by decide, by decide⟩]
        · rw [m3_o _ _ _ _ ⟨by decide, by decide, by decide⟩, u2_off _ _ _ (by decide), txH_o _ _ _ _ _ ⟨by decide, by decide⟩]
        · rw [m3_o _ _ _ _ ⟨by decide, by decide, by decide⟩, u2_at, uz_ne _ _ (by decide), txH_f _ _ _ _ _ ⟨by decide, by decide, by decide⟩]
        · rw [m3_o _ _ _ _ ⟨by decide, by decide, by decide⟩, u2_at, uz_ne _ _ (by decide), txH_f _ _ _ _ _ ⟨by decide, by decide, by decide⟩]
    · exfalso
      have w := (sgN_is (J 364) (J 368) (J 361 4).toNat).1 s2 a1
      have wi := (pS_inv _ s2 a1).1
      have w7 : stgS s2 = 7 := (stg_7 wi).mpr ⟨a2.1, by omega⟩
      rw [h347, hx, ← e364, ← e4] at p
      exact p (w.trans w7)
  · intro s p1 p2 p3 m n1 n2 n3 J R' x' c' t' j1 j2 j3 j4 j5
    have e1 : J 361 = I 361 := j1 361 (by decide)
    have e4 : J 361 4 = I 361 4 := by rw [e1]
    have e2 : J 361 2 = I 361 2 := by rw [e1]
    have e363 : J 363 = I 363 := j1 363 (by decide)
    have e364 : J 364 = I 364 := j1 364 (by decide)
    have P : pS (J 364) (J 368) (J 361 4).toNat = some s := by
      rw [e364, j1 368 (by decide), e4, ← h347, ← hx]
      exact p1
    refine af_I (cc := 1) (tt := 6) rfl rfl (by decide) ?_
    try dsimp only
    refine B_L_law_579 ?_
    try dsimp only
    refine ⟨⟨Nat.zero_le _, Nat.zero_le _, Nat.le_of_ble_eq_true rfl⟩, sh361, ?_⟩
    refine CT_m3 (j1 362 (by decide)) ?_
    refine C_load hG j4.m hz.1 hz.2.1 (by omega) (by rw [e1]; exact hC.2.2.2.1) (by rw [e1]; exact hl) (by rw [e364]; exact ht) ⟨fun a s2 a1 a2 a3 a4 => ?_, fun s2 a1 a2 m2 f q b1 b2 b3 => ?_⟩
    · exfalso
      have ea : (a : Int) = J 361 4 := by
        rcases a3 with r | r
        · exact r
        · by_cases e : (a : Int) = J 361 4
          · exact e
          · obtain ⟨s3, h3⟩ := pS_mono (J 361 4).toNat P (a + 1) (by omega)
            rw [h3] at r
            exact absurd r (by simp)
      have eb : a = (J 361 4).toNat := by omega
      rw [eb, P] at a2
      have ec : s = s2 := Option.some.inj a2
      rw [← ec] at a4
      exact a4 ⟨ea, p2, p3⟩
    · rw [P] at a1
      have ec : s = s2 := Option.some.inj a1
      subst ec
      have em : m2 = m := by
        rcases Nat.lt_trichotomy m2 m with r | r | r
        · exfalso
          have w := n2 m2 r
          rcases b3 with q1 | q1
          · omega
          · exact q1 w
        · exact r
        · exfalso
          have w := b2 m r
          rcases n3 with q1 | q1
          · omega
          · exact q1 w
      subst em
      refine af_I0 rfl rfl (by decide) ?_
      try dsimp only
      have hI := pS_inv _ s P
      have ho : s.2.2.1 ≤ 90 := by
        obtain ⟨i1, i2, i3, i4⟩ := hI
        have i5 : (0 : Int) ≤ (if 0 < s.2.1 then 1 else 0) := by split <;> decide
        omega
      refine T_load hG ?_ (fun _ => u2_same _ _ _ _) (fun p5 p6 p7 => ?_)
      · rw [m3_o _ _ _ _ ⟨by decide, by decide, by decide⟩, u2_at, uz_ne _ _ (by decide), svH_f _ _ (by decide), u2_at, uz_same]
      · refine hK _ _ _ _ _ _ p5 p6 p7 ?_ (by omega) (by omega)
        refine LJ_save hJ hk.2 j1 j3 j4 j5 (ZK_ld hz (by omega) (pI_rOK hI p2 p3) ho n1 n2) (fun a ha => ?_) ?_ ?_ ?_ ?_ ?_ ?_
        · rw [m3_o _ _ _ _ ⟨by omega, by omega, by omega⟩, u2_off _ _ _ (by omega), svH_off _ _ ⟨by omega, by omega⟩, u2_off _ _ _ (by omega), txH_o _ _ _ _ _ ⟨by omega, by omega⟩]
        · exact m3_z _ _ _ _
        · rw [m3_o _ _ _ _ ⟨by decide, by decide, by decide⟩, u2_off _ _ _ (by decide)]
          unfold svH
          rw [u2_off _ _ _ (by decide), pr_at, u2_off _ _ _ (by decide), txH_o _ _ _ _ _ ⟨by decide, by decide⟩, u2_at, uz_ne _ _ (by decide), txH_f _ _ _ _ _ ⟨by decide, by decide, by decide⟩]
        · rw [m3_o _ _ _ _ ⟨by decide, by decide, by decide⟩, u2_off _ _ _ (by decide), svH_off _ _ ⟨by decide, by decide⟩, u2_off _ _ _ (by decide), txH_o _ _ _ _ _ ⟨by decide, by decide⟩]
        · rw [m3_o _ _ _ _ ⟨by decide, by decide, by decide⟩, u2_at, uz_ne _ _ (by decide), svH_n, u2_at, uz_ne _ _ (by decide), txH_f _ _ _ _ _ ⟨by decide, by decide, by decide⟩]
        · rw [j2, m3_o _ _ _ _ ⟨by decide, by decide, by decide⟩, u2_at, uz_same]
        · rw [m3_o _ _ _ _ ⟨by decide, by decide, by decide⟩, u2_at, uz_same]; exact ⟨by decide, by decide⟩
theorem S_undo {G : amG} {Q : amR → amH → Prop} {x0 : Nat} {x4 k : Int} {o5 o6 o7 : Option amV} {I : Nat → Nat → Int} {R : Nat → Nat → Option Nat} {L : Nat → Nat → Int64} {x c t : Nat} (hG : amG0 G) (h0 : x0 = gb G) (hg : gn G ≤ 2048) (h4 : 0 ≤ x4 ∧ x4 + 3 < gn G) (hk : 0 ≤ k ∧ k < 600) (hI : LI k I R) (hc : 3 ≤ c ∧ 18 ≤ t) (hK : ∀ (K : Nat → Nat → Int) (R1 : Nat → Nat → Option Nat) (L1 : Nat → Nat → Int64) (x1 c1 t1 : Nat) (p5 p6 p7 : Option amV), LI (k + 1) K R1 → c ≤ c1 + 3 → t ≤ t1 + 18 → X G mL_law Q 1356 [some (aO x0), some (aR (some 0)), some (aR (some 361)), some (aR (some 369)), some (aI x4), p5, p6, p7, none] [] (K, R1, L1, SH, x1, c1, t1)) : X G mL_law Q 618 [some (aO x0), some (aR (some 0)), some (aR (some 361)), some (aR (some 369)), some (aI x4), o5, o6, o7, none] [] (I, R, L, SH, x, c, t) := by
  obtain ⟨zs, hJ⟩ := hI
  have hR : RK R := hJ.1
  have hC : CS I R (I 362) (I 361 2) zs := hJ.2.1
  have hz : ZK k (I 362) := hJ.2.2.1
  have hZ : ZF (I 362) := hz.f (by omega)
  have hx : I 346 1 = I 361 4 := hJ.2.2.2.2.2.1
  have hl : 0 ≤ I 361 4 ∧ I 361 4 ≤ 60 := hJ.2.2.2.2.2.2.1
  have ht : ∀ j : Nat, j < 60 → 0 ≤ I 364 j ∧ I 364 j ≤ 1000 := hJ.2.2.2.2.2.2.2
  have h347 : I 347 = I 364 := hJ.2.2.2.2.1
  have hn : 0 ≤ I 361 2 ∧ I 361 2 ≤ 5 := hC.2.2.2.1
  refine B_L_law_618 ?_
  try dsimp only
  refine ⟨⟨by omega, by omega, Nat.le_of_ble_eq_true rfl⟩, True.intro, ?_⟩
  refine E_undo hG hR hC hZ ?_ ?_
  · intro p J R' x' c' t' j1 j2 j3 j4 j5
    have e1 : J 361 = I 361 := j1 361 (by decide)
    have e4 : J 361 4 = I 361 4 := by rw [e1]
    have e2 : J 361 2 = I 361 2 := by rw [e1]
    have e363 : J 363 = I 363 := j1 363 (by decide)
    have e364 : J 364 = I 364 := j1 364 (by decide)
    refine af_I (cc := 1) (tt := 6) rfl rfl (by decide) ?_
    try dsimp only
    refine B_L_law_623 ?_
    try dsimp only
    refine ⟨⟨Nat.zero_le _, Nat.zero_le _, Nat.le_of_ble_eq_true rfl⟩, sh361, ?_⟩
    refine CT_m3 (j1 362 (by decide)) ?_
    refine C_undo hG j4.m (by rw [e1]; exact hC.2.2.2.1) ⟨fun p2 => ?_, fun p2 => ?_⟩
    · refine af_I0 rfl rfl (by decide) ?_
      try dsimp only
      exact T_undo hG (m3_0 _ _ _ _ _) (fun h => absurd h (by decide)) (fun p5 p6 p7 => hK _ _ _ _ _ _ p5 p6 p7 (LJ_i hJ hk.2 j1 j2 j3 j4 j5 _ _ _) (by omega) (by omega))
    · exfalso; omega
  · intro p J R' x' c' t' j1 j2 j3 j4 j5
    have e1 : J 361 = I 361 := j1 361 (by decide)
    have e4 : J 361 4 = I 361 4 := by rw [e1]
    have e2 : J 361 2 = I 361 2 := by rw [e1]
    have e363 : J 363 = I 363 := j1 363 (by decide)
    have e364 : J 364 = I 364 := j1 364 (by decide)
    have hm := hJ.2.2.2.1 (I 361 2 - 1).toNat (by omega)
    have hq : eqR (tkZ (I 362) (J 363) (321 * (J 361 2 - 1)).toNat 321) (zs (I 361 2 - 1).toNat) := fun j hj => by
      rw [tkZ_at, if_pos hj, e363, e2, hm.2 j hj]
      congr 1
      omega
    refine af_I (cc := 1) (tt := 6) rfl rfl (by decide) ?_
    try dsimp only
    refine B_L_law_623 ?_
    try dsimp only
    refine ⟨⟨Nat.zero_le _, Nat.zero_le _, Nat.le_of_ble_eq_true rfl⟩, sh361, ?_⟩
    refine CT_m3 (j1 362 (by decide)) ?_
    refine C_undo hG j4.m (by rw [e1]; exact hC.2.2.2.1) ⟨fun p2 => ?_, fun p2 => ?_⟩
    · exfalso; omega
    · refine af_I0 rfl rfl (by decide) ?_
      try dsimp only
      refine T_undo hG ?_ (fun _ => ?_) (fun p5 p6 p7 => ?_)
      · rw [m3_o _ _ _ _ ⟨by decide, by decide, by decide⟩, u2_at, uz_ne _ _ (by decide), u2_at, uz_same]
      · rw [u2_same, e2]
      · refine hK _ _ _ _ _ _ p5 p6 p7 ?_ (by omega) (by omega)
        refine LI_core (n := I 361 2 - 1) (zs := zs) (by omega) j4 (CS_cg j5 hq hm.1.1) (ZK_cg (ZK_up hm.1 (by omega)) hq) (fun i hi => ⟨ZK_up (hJ.2.2.2.1 i (by omega)).1 (by omega), ?_⟩) (fun a ha => ?_) ?_ ?_ ?_ ?_ ?_ (fun j hj => ?_)
        · rw [m3_o _ _ _ _ ⟨by decide, by decide, by decide⟩, u2_off _ _ _ (by decide), u2_off _ _ _ (by decide), e363]; exact (hJ.2.2.2.1 i (by omega)).2
        · rw [m3_o _ _ _ _ ⟨by omega, by omega, by omega⟩, u2_off _ _ _ (by omega), u2_off _ _ _ (by omega)]
        · exact m3_z _ _ _ _
        · rw [m3_o _ _ _ _ ⟨by decide, by decide, by decide⟩, u2_at, uz_same, e2]
        · rw [j3, h347, m3_o _ _ _ _ ⟨by decide, by decide, by decide⟩, u2_off _ _ _ (by decide), u2_off _ _ _ (by decide), e364]
        · rw [j2, hx, m3_o _ _ _ _ ⟨by decide, by decide, by decide⟩, u2_at, uz_ne _ _ (by decide), u2_at, uz_ne _ _ (by decide), e1]
        · rw [m3_o _ _ _ _ ⟨by decide, by decide, by decide⟩, u2_at, uz_ne _ _ (by decide), u2_at, uz_ne _ _ (by decide), e1]; exact hl
        · rw [m3_o _ _ _ _ ⟨by decide, by decide, by decide⟩, u2_off _ _ _ (by decide), u2_off _ _ _ (by decide), e364]; exact ht j hj
theorem S_strengthLeft {G : amG} {Q : amR → amH → Prop} {x0 : Nat} {x4 k : Int} {o5 o6 o7 : Option amV} {I : Nat → Nat → Int} {R : Nat → Nat → Option Nat} {L : Nat → Nat → Int64} {x c t : Nat} (hG : amG0 G) (h0 : x0 = gb G) (hg : gn G ≤ 2048) (h4 : 0 ≤ x4 ∧ x4 + 3 < gn G) (hk : 0 ≤ k ∧ k < 600) (hI : LI k I R) (hc : 3 ≤ c ∧ 18 ≤ t) (hK : ∀ (K : Nat → Nat → Int) (R1 : Nat → Nat → Option Nat) (L1 : Nat → Nat → Int64) (x1 c1 t1 : Nat) (p5 p6 p7 : Option amV), LI (k + 1) K R1 → c ≤ c1 + 3 → t ≤ t1 + 18 → X G mL_law Q 1356 [some (aO x0), some (aR (some 0)), some (aR (some 361)), some (aR (some 369)), some (aI x4), p5, p6, p7, none] [] (K, R1, L1, SH, x1, c1, t1)) : X G mL_law Q 1301 [some (aO x0), some (aR (some 0)), some (aR (some 361)), some (aR (some 369)), some (aI x4), o5, o6, o7, none] [] (I, R, L, SH, x, c, t) := by
  obtain ⟨zs, hJ⟩ := hI
  have hR : RK R := hJ.1
  have hC : CS I R (I 362) (I 361 2) zs := hJ.2.1
  have hz : ZK k (I 362) := hJ.2.2.1
  have hZ : ZF (I 362) := hz.f (by omega)
  refine B_L_law_1301 ?_
  try dsimp only
  refine ⟨⟨Nat.zero_le _, Nat.zero_le _, Nat.le_of_ble_eq_true rfl⟩, so0, ?_⟩
  refine D_strengthLeft hG hR hC hZ ?_
  intro J R' x' c' t' j1 j2 j3 j4 j5
  have e1 : J 361 = I 361 := j1 361 (by decide)
  have e4 : J 361 4 = I 361 4 := by rw [e1]
  have e2 : J 361 2 = I 361 2 := by rw [e1]
  have e363 : J 363 = I 363 := j1 363 (by decide)
  have e364 : J 364 = I 364 := j1 364 (by decide)
  refine af_I0 rfl rfl (by decide) ?_
  try dsimp only
  refine B_L_law_1305 ?_
  try dsimp only
  refine ⟨⟨Nat.zero_le _, Nat.zero_le _, Nat.le_of_ble_eq_true rfl⟩, sh361, ?_⟩
  refine CT_m3 (j1 362 (by decide)) ?_
  refine C_strengthLeft hG j4.m hz.1.1.2.1 hz.1.1.2.2.1 hz.1.1.2.2.2.2.2 ?_
  refine af_I0 rfl rfl (by decide) ?_
  try dsimp only
  have hE : ∀ p5 p6 p7 : Option amV, X G mL_law Q 1356 [some (aO x0), some (aR (some 0)), some (aR (some 361)), some (aR (some 369)), some (aI x4), p5, p6, p7, none] [] (m3 (u2 J 361 0 0) (I 362) (J 365) (J 366), R', L, SH, x', c, t) := fun p5 p6 p7 => hK _ _ _ _ _ _ p5 p6 p7 (LJ_i hJ hk.2 j1 j2 j3 j4 j5 _ _ _) (by omega) (by omega)
  refine B_L_law_1311 ?_
  try dsimp only
  exact ⟨fun _ => B_L_law_1339 (hE _ _ _), fun q => ⟨fun r => absurd r q, fun _ => ⟨fun _ => B_L_law_1339 (hE _ _ _), fun r => (r q).elim⟩⟩⟩
theorem S_digest {G : amG} {Q : amR → amH → Prop} {x0 : Nat} {x4 k : Int} {o5 o6 o7 : Option amV} {I : Nat → Nat → Int} {R : Nat → Nat → Option Nat} {L : Nat → Nat → Int64} {x c t : Nat} (hG : amG0 G) (h0 : x0 = gb G) (hg : gn G ≤ 2048) (h4 : 0 ≤ x4 ∧ x4 + 3 < gn G) (hk : 0 ≤ k ∧ k < 600) (hI : LI k I R) (hc : 3 ≤ c ∧ 18 ≤ t) (hK : ∀ (K : Nat → Nat → Int) (R1 : Nat → Nat → Option Nat) (L1 : Nat → Nat → Int64) (x1 c1 t1 : Nat) (p5 p6 p7 : Option amV), LI (k + 1) K R1 → c ≤ c1 + 3 → t ≤ t1 + 18 → X G mL_law Q 1356 [some (aO x0), some (aR (some 0)), some (aR (some 361)), some (aR (some 369)), some (aI x4), p5, p6, p7, none] [] (K, R1, L1, SH, x1, c1, t1)) : X G mL_law Q 1342 [some (aO x0), some (aR (some 0)), some (aR (some 361)), some (aR (some 369)), some (aI x4), o5, o6, o7, none] [] (I, R, L, SH, x, c, t) := by
  obtain ⟨zs, hJ⟩ := hI
  have hR : RK R := hJ.1
  have hC : CS I R (I 362) (I 361 2) zs := hJ.2.1
  have hz : ZK k (I 362) := hJ.2.2.1
  have hZ : ZF (I 362) := hz.f (by omega)
  have hx : I 346 1 = I 361 4 := hJ.2.2.2.2.2.1
  have hl : 0 ≤ I 361 4 ∧ I 361 4 ≤ 60 := hJ.2.2.2.2.2.2.1
  have ht : ∀ j : Nat, j < 60 → 0 ≤ I 364 j ∧ I 364 j ≤ 1000 := hJ.2.2.2.2.2.2.2
  have h347 : I 347 = I 364 := hJ.2.2.2.2.1
  refine B_L_law_1342 ?_
  try dsimp only
  refine ⟨⟨Nat.zero_le _, Nat.zero_le _, Nat.le_of_ble_eq_true rfl⟩, so0, ?_⟩
  refine D_digest hG hR hC hZ (by rw [hx]; exact hl) ?_
  intro J R' x' c' t' j1 j2 j3 j4 j5
  have e1 : J 361 = I 361 := j1 361 (by decide)
  have e4 : J 361 4 = I 361 4 := by rw [e1]
  have e2 : J 361 2 = I 361 2 := by rw [e1]
  have e363 : J 363 = I 363 := j1 363 (by decide)
  have e364 : J 364 = I 364 := j1 364 (by decide)
  refine af_I0 rfl rfl (by decide) ?_
  try dsimp only
  refine B_L_law_1346 ?_
  try dsimp only
  refine ⟨⟨Nat.zero_le _, Nat.zero_le _, Nat.le_of_ble_eq_true rfl⟩, sh361, ?_⟩
  refine CT_m3 (j1 362 (by decide)) ?_
  refine C_digest hG j4.m hz.1 hz.2.1 (by rw [e1]; exact hl) (fun a f q l => ?_)
  refine af_I0 rfl rfl (by decide) ?_
  try dsimp only
  refine B_L_law_1350 ⟨fun _ => ?_, fun q2 => ?_⟩
  · exact hK _ _ _ _ _ _ _ _ _ (LJ_a hJ hk.2 j1 j2 j3 j4 j5 _ _ _ _) (by omega) (by omega)
  · exfalso
    rw [e1, e364, hx, h347] at q2
    exact q2 (lg_self _)
