/-! ===== told: the rest ===== -/
theorem cmpv_self {x : UInt64} (h : x.toNat ≤ 4607182418800017408) : (Op.cmpValue (FP.dcmp x x) CmpOp.l).toInt = 0 := by
  rw [cmp_self h]
  rfl
theorem exN_s (z : Row) (c : Int) (d : Nat) : exN z c (d + 1) = exN z c d + (if nb c d ≠ -1 ∧ clm z c (nb c d) then 1 else 0) := rfl
theorem ex_st {z : Row} {c w r : Int} (h : sp8 z c w r) : (nb (bg c) w ≠ -1 ∧ clm z (bg c) (nb (bg c) w)) ↔ r ≠ -1 := by
  unfold sp8 stT at h
  constructor
  · intro q
    rw [if_pos q] at h
    rcases h with ⟨_, h⟩ | ⟨h, _⟩
    · exact absurd h q.1
    · have := h.1; omega
  · intro q
    by_cases p : nb (bg c) w ≠ -1 ∧ clm z (bg c) (nb (bg c) w)
    · exact p
    · rw [if_neg p] at h
      rcases h with ⟨h, _⟩ | ⟨h1, h2⟩
      · exact absurd h q
      · have := (bg_in h1).1; omega
theorem KD_far {G : amG} {Q : amR → amH → Prop} (hG : amG0 G) {sT : List (Nat × Nat)} (hS : LH (SH sT) 362 363 364) {I0 : Nat → Nat → Int} {z : Row} {nv : Int} {zs : Nat → Row} {N : Nat} (hN : N = 361 + sT.length) {x y f D k : Int} {o10 o11 : Option amV} {J : Nat → Nat → Int} {R : Nat → Nat → Option Nat} {L : Nat → Nat → Int64} {U : List (Nat × Nat)} {c t : Nat} (hV : LV N I0 J R z nv zs) (hx : 0 ≤ x) (hy : 0 ≤ y) (hc : 1 ≤ c) (ht : 64 ≤ t) (hK : ∀ (J : Nat → Nat → Int) (R : Nat → Nat → Option Nat) (L : Nat → Nat → Int64) (U : List (Nat × Nat)) (a b : Int) (F : Nat), LV N I0 J R z nv zs → is8 a → is8 b → (SH (sT ++ U))[F]? = some (20, 64) → 361 ≤ F → (∀ c : Int, is8 c → J F c.toNat = d8 z opA a c) → X G mL_told Q 431 [some (aR (some 0)), some (aI x), some (aI y), some (aR (some 361)), some (aR (some 362)), some (aR (some 363)), some (aR (some 364)), some (aI f), some (aI D), some (aI a), some (aI b), some (aR (some F)), some (aI (0 : Int)), some (aI (0 : Int))] [] (J, R, L, SH (sT ++ U), 0, c - 1, t - 64)) : X G mL_told Q 390 [some (aR (some 0)), some (aI x), some (aI y), some (aR (some 361)), some (aR (some 362)), some (aR (some 363)), some (aR (some 364)), some (aI f), some (aI D), some (aI k), o10, o11, none, none] [] (J, R, L, SH (sT ++ U), 0, c, t) := by
  refine B_L_told_390 ?_
  try dsimp only
  skip
  refine ⟨⟨Nat.zero_le _, Nat.zero_le _, Nat.le_of_ble_eq_true rfl⟩, trivial, ?_⟩
  refine K_at hG hx (by decide) (fun a a0 a1 => ?_)
  refine af_I0 rfl rfl (by decide) ?_
  try dsimp only
  skip
  refine B_L_told_396 ?_
  try dsimp only
  skip
  refine ⟨⟨Nat.zero_le _, Nat.zero_le _, Nat.le_of_ble_eq_true rfl⟩, trivial, ?_⟩
  refine K_at hG hy (by decide) (fun b b0 b1 => ?_)
  refine af_I0 rfl rfl (by decide) ?_
  try dsimp only
  skip
  refine B_L_told_404 ?_
  try dsimp only
  skip
  refine ⟨⟨by decide, by decide, by omega, by omega, by first | trivial | rfl | assumption⟩, ?_⟩
  refine ⟨⟨Nat.zero_le _, Nat.zero_le _, Nat.le_of_ble_eq_true rfl⟩, trivial, ?_⟩
  have h4 := ge_lt (LH_app (U := U) hS).2.2.2
  have e1 := SH_len (sT ++ U)
  rw [List.length_append] at e1
  have hT9 : LH (SH (sT ++ U)) 362 363 364 := LH_app hS
  have ha8 : is8 a := ⟨a0, a1⟩
  refine K_spread hG (ge_at hT9.1) (ge_at hT9.2.1) (ge_at hT9.2.2.2) (by rw [u1_off _ _ (by omega)]; exact hV.l.t) (by rw [u1_off _ _ (by omega)]; exact hV.l.d.n) hV.l.n hV.b (by rw [u1_off _ _ (by omega)]; exact hV.l.h) ge_new ⟨by omega, by omega, by omega⟩ ha8 (by decide) (fun f9 hf9 => ?_)
  have hV2 : LV N I0 (pr (u1 J (SH (sT ++ U)).length 0) (SH (sT ++ U)).length f9) (u1 R (SH (sT ++ U)).length none) z nv zs := LV_law hV (M := (SH (sT ++ U)).length) (by omega) (fun a ha => ⟨by rw [pr_off _ _ (by omega), u1_off _ _ (by omega)], u1_off _ _ (by omega)⟩)
  have hf8 : ∀ c : Int, is8 c → pr (u1 J (SH (sT ++ U)).length 0) (SH (sT ++ U)).length f9 (SH (sT ++ U)).length c.toNat = d8 z opA a c := fun c hc => by rw [pr_at, hf9 c hc, opM_all]
  have hSe : SH (sT ++ U) ++ [(20, 64)] = SH (sT ++ (U ++ [(20, 64)])) := by rw [← SH_app, List.append_assoc]
  rw [hSe]
  refine af_N0 rfl rfl rfl ?_
  try dsimp only
  skip
  refine B_L_told_425 ?_
  try dsimp only
  skip
  refine hK _ _ _ (U ++ [(20, 64)]) a b _ hV2 ha8 ⟨b0, b1⟩ ?_ (by omega) hf8
  rw [← hSe]
  exact ge_new
theorem KD_ways {G : amG} {Q : amR → amH → Prop} (hG : amG0 G) {sT : List (Nat × Nat)} (hS : LH (SH sT) 362 363 364) {I0 : Nat → Nat → Int} {z : Row} {nv : Int} {zs : Nat → Row} {N : Nat} (hN : N = 361 + sT.length) {x y f D a b : Int} {F : Nat} (ha : is8 a) (hb : is8 b) {J : Nat → Nat → Int} {R : Nat → Nat → Option Nat} {L : Nat → Nat → Int64} {U : List (Nat × Nat)} {c t : Nat} (hV : LV N I0 J R z nv zs) (hK : ∀ (w : Int), X G mL_told Q 464 [some (aR (some 0)), some (aI x), some (aI y), some (aR (some 361)), some (aR (some 362)), some (aR (some 363)), some (aR (some 364)), some (aI f), some (aI D), some (aI a), some (aI b), some (aR (some F)), some (aI (exN z (bg a) 4)), some (aI w)] [] (J, R, L, SH (sT ++ U), 0, c, t)) :
    ∀ (n : Nat) (s w : Int), 0 ≤ w → (4 - w < n ∧ w ≤ 4) → s = exN z (bg a) w.toNat → X G mL_told Q 431 [some (aR (some 0)), some (aI x), some (aI y), some (aR (some 361)), some (aR (some 362)), some (aR (some 363)), some (aR (some 364)), some (aI f), some (aI D), some (aI a), some (aI b), some (aR (some F)), some (aI s), some (aI w)] [] (J, R, L, SH (sT ++ U), 0, c, t) := by
  intro n
  induction n with
  | zero =>
    intros
    exfalso; omega
  | succ n ih =>
    intro s w h0 hw hs
    have hxb := exN_b z (bg a) w.toNat
    have hxs := exN_s z (bg a) w.toNat
    rw [Int.toNat_of_nonneg h0] at hxs
    refine B_L_told_431 ?_
    try dsimp only
    skip
    refine ⟨fun c434_0 => ?_, fun c434_0 => ?_⟩
    · have e : w.toNat = 4 := by omega
      rw [hs, e]
      exact hK w
    · refine ⟨⟨Nat.zero_le _, Nat.zero_le _, Nat.le_of_ble_eq_true rfl⟩, trivial, ?_⟩
      refine K_step hG (LH_app hS).1 hV.l.h ha (by omega) (fun r hr => ?_)
      have hrb := sp8_b hr
      have hex := ex_st hr
      refine af_I0 rfl rfl (by decide) ?_
      try dsimp only
      skip
      refine B_L_told_447 ?_
      try dsimp only
      skip
      refine ⟨fun c447_1 => ?_, fun c447_1 => ?_⟩
      · refine B_L_told_454 ?_
        try dsimp only
        skip
        refine B_L_told_455 ?_
        try dsimp only
        skip
        refine ⟨by (refine ⟨?_, ?_⟩ <;> omega), ?_⟩
        refine ⟨by (refine ⟨?_, ?_⟩ <;> omega), ?_⟩
        refine ih _ (w + 1) (by omega) (by omega) ?_
        rw [show (w + 1).toNat = w.toNat + 1 by omega, hxs, hs]
        first
          | (rw [if_pos (hex.mpr (by omega))])
          | (rw [if_neg (fun q => absurd (hex.mp q) (by omega))])
      · refine B_L_told_455 ?_
        try dsimp only
        skip
        refine ⟨by (refine ⟨?_, ?_⟩ <;> omega), ?_⟩
        refine ⟨by (refine ⟨?_, ?_⟩ <;> omega), ?_⟩
        refine ih _ (w + 1) (by omega) (by omega) ?_
        rw [show (w + 1).toNat = w.toNat + 1 by omega, hxs, hs]
        first
          | (rw [if_pos (hex.mpr (by omega))])
          | (rw [if_neg (fun q => absurd (hex.mp q) (by omega))])
theorem KD_fin {G : amG} {Q : amR → amH → Prop} (hG : amG0 G) {sT : List (Nat × Nat)} (hS : LH (SH sT) 362 363 364) {I0 : Nat → Nat → Int} {z : Row} {nv : Int} {zs : Nat → Row} {N : Nat} (hN : N = 361 + sT.length) {x y D a b w : Int} {F : Nat} (ha : is8 a) (hb : is8 b) {J : Nat → Nat → Int} {R : Nat → Nat → Option Nat} {L : Nat → Nat → Int64} {U : List (Nat × Nat)} {c t : Nat} (hV : LV N I0 J R z nv zs) (hF : (SH (sT ++ U))[F]? = some (20, 64)) (hF0 : 361 ≤ F) (hF8 : ∀ c : Int, is8 c → J F c.toNat = d8 z opA a c) (hc : 12 ≤ c) (ht : 72 ≤ t) (hQ : ∀ (J : Nat → Nat → Int) (R : Nat → Nat → Option Nat) (c t : Nat), LV N I0 J R z nv zs → Q (Sum.inl (some (aI 1))) (J, R, L, SH (sT ++ U), 0, c, t)) : X G mL_told Q 464 [some (aR (some 0)), some (aI x), some (aI y), some (aR (some 361)), some (aR (some 362)), some (aR (some 363)), some (aR (some 364)), some (aI (fiN z (z 98).toNat)), some (aI D), some (aI a), some (aI b), some (aR (some F)), some (aI (exN z (bg a) 4)), some (aI w)] [] (J, R, L, SH (sT ++ U), 0, c, t) := by
  have hca : 0 ≤ bg a ∧ bg a ≤ 95 := by have := bg_C ha; unfold isC at this; omega
  have hcb : 0 ≤ bg b ∧ bg b ≤ 95 := by have := bg_C hb; unfold isC at this; omega
  have ha2 := ha
  have hb2 := hb
  unfold is8 at ha2 hb2
  have hn0 := hV.b.2.1.1
  have hZn := hV.l.n
  have h9 := stN_b hV.b.2.2.1 0 (z 98).toNat (by omega)
  have h10 := stN_b hV.b.2.2.1 1 (z 98).toNat (by omega)
  have hfi := fiN_b hV.b.2.2.1 (z 98).toNat (by omega)
  have hsf := st_fi hV.b.2.2.1 hV.b.2.2.2.2.2 (z 98).toNat (by omega)
  have e9 : cntZ z 9 = stN z 0 (z 98).toNat := rfl
  have e10 : cntZ z 10 = stN z 1 (z 98).toNat := rfl
  refine B_L_told_464 ?_
  try dsimp only
  skip
  refine ⟨⟨Nat.zero_le _, Nat.zero_le _, Nat.le_of_ble_eq_true rfl⟩, trivial, ?_⟩
  refine K_big hG ha ?_
  refine af_I0 rfl rfl (by decide) ?_
  try dsimp only
  skip
  refine B_L_told_470 ?_
  try dsimp only
  skip
  refine ⟨⟨Nat.zero_le _, Nat.zero_le _, Nat.le_of_ble_eq_true rfl⟩, trivial, ?_⟩
  refine K_big hG hb ?_
  refine af_I0 rfl rfl (by decide) ?_
  try dsimp only
  skip
  refine B_L_told_475 ?_
  try dsimp only
  skip
  refine ⟨⟨by omega, by omega, Nat.le_of_ble_eq_true rfl⟩, so0, ?_⟩
  refine D_sees hG hV.k hV.c hV.f (fun q => absurd ⟨hca, hcb⟩ q) (fun _ => QWx (fun J1 R1 c1 t1 j1 hRK1 hC1 => ?_))
  have hV1 := LV_cls hV j1 hRK1 hC1
  have hF1 : ∀ c : Int, is8 c → J1 F c.toNat = d8 z opA a c := fun c hc => by rw [j1 F hF0]; exact hF8 c hc
  clear hF8
  clear hV
  have hV := hV1
  have hF8 := hF1
  clear hF1
  clear hV1
  refine af_I (cc := 2) (tt := 12) rfl rfl (by decide) ?_
  try dsimp only
  skip
  refine B_L_told_478 ?_
  try dsimp only
  skip
  refine ⟨⟨Nat.zero_le _, Nat.zero_le _, Nat.le_of_ble_eq_true rfl⟩, trivial, ?_⟩
  refine K_sees hG (LH_app hS).1 hV.l.h ha hb (fun r hr => ?_)
  have hr2 : r = seeI z (bg a) (bg b) := by
    rcases hr with ⟨q1, q2⟩ | ⟨q1, q2⟩
    · rw [q2, seeI_one q1]
    · rw [q2, seeI_zero q1]
  refine af_I0 rfl rfl (by decide) ?_
  try dsimp only
  skip
  refine B_L_told_486 ?_
  try dsimp only
  skip
  refine ⟨fun c486_4 => ?_, fun c486_4 => ?_⟩
  · exfalso
    omega
  · refine ⟨⟨Nat.zero_le _, Nat.zero_le _, Nat.le_of_ble_eq_true rfl⟩, trivial, ?_⟩
    refine K_big hG ha ?_
    refine af_I0 rfl rfl (by decide) ?_
    try dsimp only
    skip
    refine B_L_told_495 ?_
    try dsimp only
    skip
    refine ⟨⟨Nat.zero_le _, Nat.zero_le _, Nat.le_of_ble_eq_true rfl⟩, trivial, ?_⟩
    refine K_big hG hb ?_
    refine af_I0 rfl rfl (by decide) ?_
    try dsimp only
    skip
    refine B_L_told_500 ?_
    try dsimp only
    skip
    refine ⟨⟨by omega, by omega, Nat.le_of_ble_eq_true rfl⟩, so0, ?_⟩
    refine D_distance hG hV.k hV.c hV.f (fun q => absurd ⟨hca, hcb⟩ q) (fun _ => QWx (fun J1 R1 c1 t1 j1 hRK1 hC1 => ?_))
    have hV1 := LV_cls hV j1 hRK1 hC1
    have hF1 : ∀ c : Int, is8 c → J1 F c.toNat = d8 z opA a c := fun c hc => by rw [j1 F hF0]; exact hF8 c hc
    clear hF8
    clear hV
    have hV := hV1
    have hF8 := hF1
    clear hF1
    clear hV1
    have hfb : J1 F b.toNat = if dS z (bg a) (bg b) = -1 then 999 else dS z (bg a) (bg b) := hF8 b hb
    have hdb := dS_b (z := z) (bg_C ha) (bg_C hb)
    have hfb1 : dS z (bg a) (bg b) = -1 → J1 F b.toNat = 999 := fun q => by rw [hfb, if_pos q]
    have hfb2 : dS z (bg a) (bg b) ≠ -1 → J1 F b.toNat = dS z (bg a) (bg b) := fun q => by rw [hfb, if_neg q]
    refine af_I (cc := 2) (tt := 12) rfl rfl (by decide) ?_
    try dsimp only
    skip
    refine B_L_told_503 ?_
    try dsimp only
    skip
    refine ⟨_, by first | exact hF | exact (LH_app hS).1 | exact (LH_app hS).2.2.2, ⟨by omega, by omega⟩, ?_⟩
    skip
    refine ⟨fun c511_7 => ?_, fun c511_7 => ?_⟩
    · refine B_L_told_518 ?_
      try dsimp only
      skip
      refine ⟨_, by first | exact hF | exact (LH_app hS).1 | exact (LH_app hS).2.2.2, ⟨by omega, by omega⟩, ?_⟩
      skip
      refine B_L_told_523 ?_
      try dsimp only
      skip
      refine ⟨fun c523_9 => ?_, fun c523_9 => ?_⟩
      · exfalso
        omega
      · refine ⟨⟨Nat.zero_le _, Nat.zero_le _, Nat.le_of_ble_eq_true rfl⟩, trivial, ?_⟩
        refine K_big hG ha ?_
        refine af_I0 rfl rfl (by decide) ?_
        try dsimp only
        skip
        refine B_L_told_532 ?_
        try dsimp only
        skip
        refine ⟨⟨by omega, by omega, Nat.le_of_ble_eq_true rfl⟩, so0, ?_⟩
        refine D_cell hG hV.k hV.c hV.f (fun q => absurd hca q) (fun q => absurd (by decide) q.2) (fun _ => QWx (fun J1 R1 c1 t1 j1 hRK1 hC1 => ?_))
        have hV1 := LV_cls hV j1 hRK1 hC1
        have hF1 : ∀ c : Int, is8 c → J1 F c.toNat = d8 z opA a c := fun c hc => by rw [j1 F hF0]; exact hF8 c hc
        clear hF8
        clear hV
        have hV := hV1
        have hF8 := hF1
        clear hF1
        clear hV1
        rw [show ceN z (bg a) 0 = z (bg a).toNat from rfl]
        have hh8 := (hV.l.h.1 a ha).1
        refine af_I (cc := 2) (tt := 12) rfl rfl (by decide) ?_
        try dsimp only
        skip
        refine B_L_told_536 ?_
        try dsimp only
        skip
        refine ⟨_, by first | exact hF | exact (LH_app hS).1 | exact (LH_app hS).2.2.2, ⟨by omega, by omega⟩, ?_⟩
        skip
        refine ⟨fun c540_11 => ?_, fun c540_11 => ?_⟩
        · exfalso
          omega
        · refine ⟨⟨Nat.zero_le _, Nat.zero_le _, Nat.le_of_ble_eq_true rfl⟩, trivial, ?_⟩
          refine K_big hG ha ?_
          refine af_I0 rfl rfl (by decide) ?_
          try dsimp only
          skip
          refine B_L_told_549 ?_
          try dsimp only
          skip
          refine ⟨⟨by omega, by omega, Nat.le_of_ble_eq_true rfl⟩, so0, ?_⟩
          refine D_cell hG hV.k hV.c hV.f (fun q => absurd hca q) (fun q => absurd (by decide) q.2) (fun _ => QWx (fun J1 R1 c1 t1 j1 hRK1 hC1 => ?_))
          have hV1 := LV_cls hV j1 hRK1 hC1
          have hF1 : ∀ c : Int, is8 c → J1 F c.toNat = d8 z opA a c := fun c hc => by rw [j1 F hF0]; exact hF8 c hc
          clear hF8
          clear hV
          have hV := hV1
          have hF8 := hF1
          clear hF1
          clear hV1
          rw [show ceN z (bg a) 1 = tAt z (bg a) from rfl]
          refine af_I (cc := 2) (tt := 12) rfl rfl (by decide) ?_
          try dsimp only
          skip
          refine B_L_told_553 ?_
          try dsimp only
          skip
          refine ⟨⟨Nat.zero_le _, Nat.zero_le _, Nat.le_of_ble_eq_true rfl⟩, trivial, ?_⟩
          refine K_who hG (LH_app hS).2.1 (LH_app hS).2.2.2 hV.l.t hV.l.d.n hV.l.n hV.b ha ?_
          refine af_I0 rfl rfl (by decide) ?_
          try dsimp only
          skip
          refine B_L_told_562 ?_
          try dsimp only
          skip
          refine ⟨fun c562_14 => ?_, fun c562_14 => ?_⟩
          · exfalso
            omega
          · refine ⟨⟨Nat.zero_le _, Nat.zero_le _, Nat.le_of_ble_eq_true rfl⟩, trivial, ?_⟩
            refine K_big hG ha ?_
            refine af_I0 rfl rfl (by decide) ?_
            try dsimp only
            skip
            refine B_L_told_571 ?_
            try dsimp only
            skip
            refine ⟨⟨by omega, by omega, Nat.le_of_ble_eq_true rfl⟩, so0, ?_⟩
            refine D_cell hG hV.k hV.c hV.f (fun q => absurd hca q) (fun q => absurd (by decide) q.2) (fun _ => QWx (fun J1 R1 c1 t1 j1 hRK1 hC1 => ?_))
            have hV1 := LV_cls hV j1 hRK1 hC1
            have hF1 : ∀ c : Int, is8 c → J1 F c.toNat = d8 z opA a c := fun c hc => by rw [j1 F hF0]; exact hF8 c hc
            clear hF8
            clear hV
            have hV := hV1
            have hF8 := hF1
            clear hF1
            clear hV1
            rw [show ceN z (bg a) 2 = exN z (bg a) 4 from rfl]
            refine af_I (cc := 2) (tt := 12) rfl rfl (by decide) ?_
            try dsimp only
            skip
            refine B_L_told_575 ?_
            try dsimp only
            skip
            refine ⟨fun c577_16 => ?_, fun c577_16 => ?_⟩
            · refine B_L_told_582 ?_
              try dsimp only
              skip
              refine ⟨⟨Nat.zero_le _, Nat.zero_le _, Nat.le_of_ble_eq_true rfl⟩, trivial, ?_⟩
              refine K_counted hG (LH_app hS).2.1 (LH_app hS).2.2.2 hV.l.t hV.l.d hV.l.n hV.b (by decide) ?_
              refine af_I0 rfl rfl (by decide) ?_
              try dsimp only
              skip
              refine B_L_told_591 ?_
              try dsimp only
              skip
              refine ⟨⟨Nat.zero_le _, Nat.zero_le _, Nat.le_of_ble_eq_true rfl⟩, trivial, ?_⟩
              refine K_counted hG (LH_app hS).2.1 (LH_app hS).2.2.2 hV.l.t hV.l.d hV.l.n hV.b (by decide) ?_
              refine af_I0 rfl rfl (by decide) ?_
              try dsimp only
              skip
              refine B_L_told_600 ?_
              try dsimp only
              skip
              refine ⟨by (refine ⟨?_, ?_⟩ <;> omega), ?_⟩
              refine ⟨⟨by omega, by omega, Nat.le_of_ble_eq_true rfl⟩, so0, ?_⟩
              refine D_count hG hV.k hV.c hV.f (fun q => absurd (by decide) q) (fun _ => QWx (fun J1 R1 c1 t1 j1 hRK1 hC1 => ?_))
              have hV1 := LV_cls hV j1 hRK1 hC1
              have hF1 : ∀ c : Int, is8 c → J1 F c.toNat = d8 z opA a c := fun c hc => by rw [j1 F hF0]; exact hF8 c hc
              clear hF8
              clear hV
              have hV := hV1
              have hF8 := hF1
              clear hF1
              clear hV1
              rw [if_neg (by decide), show cntZ z 11 = z 96 from rfl]
              refine af_I (cc := 1) (tt := 6) rfl rfl (by decide) ?_
              try dsimp only
              skip
              refine B_L_told_609 ?_
              try dsimp only
              skip
              refine ⟨_, by first | exact hF | exact (LH_app hS).1 | exact (LH_app hS).2.2.2, ⟨by omega, by omega⟩, ?_⟩
              skip
              rw [hV.l.d.2.1.1]
              refine ⟨⟨Nat.zero_le _, Nat.zero_le _, Nat.le_of_ble_eq_true rfl⟩, trivial, ?_⟩
              refine K_big hG (sm_in hV.l.d.2.2.1) ?_
              rw [bg_sm hV.l.d.2.2.1]
              refine af_I0 rfl rfl (by decide) ?_
              try dsimp only
              skip
              refine B_L_told_617 ?_
              try dsimp only
              skip
              refine ⟨fun c617_21 => ?_, fun c617_21 => ?_⟩
              · exfalso
                omega
              · refine ⟨⟨by omega, by omega, Nat.le_of_ble_eq_true rfl⟩, so0, ?_⟩
                refine D_count hG hV.k hV.c hV.f (fun q => absurd (by decide) q) (fun _ => QWx (fun J1 R1 c1 t1 j1 hRK1 hC1 => ?_))
                have hV1 := LV_cls hV j1 hRK1 hC1
                have hF1 : ∀ c : Int, is8 c → J1 F c.toNat = d8 z opA a c := fun c hc => by rw [j1 F hF0]; exact hF8 c hc
                clear hF8
                clear hV
                have hV := hV1
                have hF8 := hF1
                clear hF1
                clear hV1
                rw [if_neg (by decide), show cntZ z 12 = z 97 from rfl]
                refine af_I (cc := 1) (tt := 6) rfl rfl (by decide) ?_
                try dsimp only
                skip
                refine B_L_told_626 ?_
                try dsimp only
                skip
                refine ⟨_, by first | exact hF | exact (LH_app hS).1 | exact (LH_app hS).2.2.2, ⟨by omega, by omega⟩, ?_⟩
                skip
                rw [hV.l.d.2.1.2]
                refine ⟨⟨Nat.zero_le _, Nat.zero_le _, Nat.le_of_ble_eq_true rfl⟩, trivial, ?_⟩
                refine K_big hG (sm_in hV.l.d.2.2.2) ?_
                rw [bg_sm hV.l.d.2.2.2]
                refine af_I0 rfl rfl (by decide) ?_
                try dsimp only
                skip
                refine B_L_told_634 ?_
                try dsimp only
                skip
                refine ⟨fun c634_23 => ?_, fun c634_23 => ?_⟩
                · exfalso
                  omega
                · refine ⟨⟨Nat.zero_le _, Nat.zero_le _, Nat.le_of_ble_eq_true rfl⟩, so0, ?_⟩
                  refine D_strengthLeft hG hV.k hV.c hV.f (QWx (fun J1 R1 c1 t1 j1 hRK1 hC1 => ?_))
                  have hV1 := LV_cls hV j1 hRK1 hC1
                  clear hV
                  have hV := hV1
                  clear hV1
                  have hok := shZr_ok hV.b.2.1 hV.b.2.2.1 hV.b.2.2.2.2.2
                  refine af_I0 rfl rfl (by decide) ?_
                  try dsimp only
                  skip
                  refine B_L_told_641 ?_
                  try dsimp only
                  skip
                  refine ⟨fun c643_24 => ?_, fun c643_24 => ?_⟩
                  · refine B_L_told_650 ?_
                    try dsimp only
                    skip
                    have el : cntZ z 9 + cntZ z 10 = (((cntZ z 9 + cntZ z 10).toNat : Nat) : Int) := (Int.toNat_of_nonneg (by omega)).symm
                    have ef : fiN z (z 98).toNat = (((fiN z (z 98).toNat).toNat : Nat) : Int) := (Int.toNat_of_nonneg hfi.1).symm
                    have hm1 := mul1 (a := (cntZ z 9 + cntZ z 10).toNat) (by omega)
                    rw [← el] at hm1
                    have hsz : shZr z = FP.ddiv (FP.i2d (Int32.ofInt (cntZ z 9 + cntZ z 10))) (FP.i2d (Int32.ofInt (fiN z (z 98).toNat))) := by
                      unfold shZr shD
                      rw [if_neg (by omega), ← ef, ← e9, ← e10, ← el]
                    have hv1 : vf_n64 (FP.dmul FP.dconst1 (FP.i2d (Int32.ofInt (cntZ z 9 + cntZ z 10)))) := by rw [hm1.1]; exact hm1.2
                    refine ⟨by assumption, ?_⟩
                    rw [hm1.1, ← hsz]
                    have hv2 : vf_n64 (shZr z) := vf_small hok
                    refine ⟨by assumption, ?_⟩
                    refine B_L_told_659 ?_
                    try dsimp only
                    first
                      | (rw [hsz, cmpv_self hok])
                      | (rw [cmpv_self hok])
                    refine ⟨fun q => absurd rfl q, fun _ => ?_⟩
                    refine B_L_told_668 ?_
                    try dsimp only
                    refine ⟨Or.inr rfl, ?_⟩
                    exact hQ J1 R1 _ _ hV
                  · have hsz : shZr z = FP.dconst1 := by unfold shZr; rw [if_pos (by omega)]
                    rw [hsz] at hok
                    refine B_L_told_659 ?_
                    try dsimp only
                    first
                      | (rw [hsz, cmpv_self hok])
                      | (rw [cmpv_self hok])
                    refine ⟨fun q => absurd rfl q, fun _ => ?_⟩
                    refine B_L_told_668 ?_
                    try dsimp only
                    refine ⟨Or.inr rfl, ?_⟩
                    exact hQ J1 R1 _ _ hV
            · exfalso
              omega
    · refine B_L_told_523 ?_
      try dsimp only
      skip
      refine ⟨fun c523_8 => ?_, fun c523_8 => ?_⟩
      · exfalso
        omega
      · refine ⟨⟨Nat.zero_le _, Nat.zero_le _, Nat.le_of_ble_eq_true rfl⟩, trivial, ?_⟩
        refine K_big hG ha ?_
        refine af_I0 rfl rfl (by decide) ?_
        try dsimp only
        skip
        refine B_L_told_532 ?_
        try dsimp only
        skip
        refine ⟨⟨by omega, by omega, Nat.le_of_ble_eq_true rfl⟩, so0, ?_⟩
        refine D_cell hG hV.k hV.c hV.f (fun q => absurd hca q) (fun q => absurd (by decide) q.2) (fun _ => QWx (fun J1 R1 c1 t1 j1 hRK1 hC1 => ?_))
        have hV1 := LV_cls hV j1 hRK1 hC1
        have hF1 : ∀ c : Int, is8 c → J1 F c.toNat = d8 z opA a c := fun c hc => by rw [j1 F hF0]; exact hF8 c hc
        clear hF8
        clear hV
        have hV := hV1
        have hF8 := hF1
        clear hF1
        clear hV1
        rw [show ceN z (bg a) 0 = z (bg a).toNat from rfl]
        have hh8 := (hV.l.h.1 a ha).1
        refine af_I (cc := 2) (tt := 12) rfl rfl (by decide) ?_
        try dsimp only
        skip
        refine B_L_told_536 ?_
        try dsimp only
        skip
        refine ⟨_, by first | exact hF | exact (LH_app hS).1 | exact (LH_app hS).2.2.2, ⟨by omega, by omega⟩, ?_⟩
        skip
        refine ⟨fun c540_10 => ?_, fun c540_10 => ?_⟩
        · exfalso
          omega
        · refine ⟨⟨Nat.zero_le _, Nat.zero_le _, Nat.le_of_ble_eq_true rfl⟩, trivial, ?_⟩
          refine K_big hG ha ?_
          refine af_I0 rfl rfl (by decide) ?_
          try dsimp only
          skip
          refine B_L_told_549 ?_
          try dsimp only
          skip
          refine ⟨⟨by omega, by omega, Nat.le_of_ble_eq_true rfl⟩, so0, ?_⟩
          refine D_cell hG hV.k hV.c hV.f (fun q => absurd hca q) (fun q => absurd (by decide) q.2) (fun _ => QWx (fun J1 R1 c1 t1 j1 hRK1 hC1 => ?_))
          have hV1 := LV_cls hV j1 hRK1 hC1
          have hF1 : ∀ c : Int, is8 c → J1 F c.toNat = d8 z opA a c := fun c hc => by rw [j1 F hF0]; exact hF8 c hc
          clear hF8
          clear hV
          have hV := hV1
          have hF8 := hF1
          clear hF1
          clear hV1
          rw [show ceN z (bg a) 1 = tAt z (bg a) from rfl]
          refine af_I (cc := 2) (tt := 12) rfl rfl (by decide) ?_
          try dsimp only
          skip
          refine B_L_told_553 ?_
          try dsimp only
          skip
          refine ⟨⟨Nat.zero_le _, Nat.zero_le _, Nat.le_of_ble_eq_true rfl⟩, trivial, ?_⟩
          refine K_who hG (LH_app hS).2.1 (LH_app hS).2.2.2 hV.l.t hV.l.d.n hV.l.n hV.b ha ?_
          refine af_I0 rfl rfl (by decide) ?_
          try dsimp only
          skip
          refine B_L_told_562 ?_
          try dsimp only
          skip
          refine ⟨fun c562_13 => ?_, fun c562_13 => ?_⟩
          · exfalso
            omega
          · refine ⟨⟨Nat.zero_le _, Nat.zero_le _, Nat.le_of_ble_eq_true rfl⟩, trivial, ?_⟩
            refine K_big hG ha ?_
            refine af_I0 rfl rfl (by decide) ?_
            try dsimp only
            skip
            refine B_L_told_571 ?_
            try dsimp only
            skip
            refine ⟨⟨by omega, by omega, Nat.le_of_ble_eq_true rfl⟩, so0, ?_⟩
            refine D_cell hG hV.k hV.c hV.f (fun q => absurd hca q) (fun q => absurd (by decide) q.2) (fun _ => QWx (fun J1 R1 c1 t1 j1 hRK1 hC1 => ?_))
            have hV1 := LV_cls hV j1 hRK1 hC1
            have hF1 : ∀ c : Int, is8 c → J1 F c.toNat = d8 z opA a c := fun c hc => by rw [j1 F hF0]; exact hF8 c hc
            clear hF8
            clear hV
            have hV := hV1
            have hF8 := hF1
            clear hF1
            clear hV1
            rw [show ceN z (bg a) 2 = exN z (bg a) 4 from rfl]
            refine af_I (cc := 2) (tt := 12) rfl rfl (by decide) ?_
            try dsimp only
            skip
            refine B_L_told_575 ?_
            try dsimp only
            skip
            refine ⟨fun c577_15 => ?_, fun c577_15 => ?_⟩
            · refine B_L_told_582 ?_
              try dsimp only
              skip
              refine ⟨⟨Nat.zero_le _, Nat.zero_le _, Nat.le_of_ble_eq_true rfl⟩, trivial, ?_⟩
              refine K_counted hG (LH_app hS).2.1 (LH_app hS).2.2.2 hV.l.t hV.l.d hV.l.n hV.b (by decide) ?_
              refine af_I0 rfl rfl (by decide) ?_
              try dsimp only
              skip
              refine B_L_told_591 ?_
              try dsimp only
              skip
              refine ⟨⟨Nat.zero_le _, Nat.zero_le _, Nat.le_of_ble_eq_true rfl⟩, trivial, ?_⟩
              refine K_counted hG (LH_app hS).2.1 (LH_app hS).2.2.2 hV.l.t hV.l.d hV.l.n hV.b (by decide) ?_
              refine af_I0 rfl rfl (by decide) ?_
              try dsimp only
              skip
              refine B_L_told_600 ?_
              try dsimp only
              skip
              refine ⟨by (refine ⟨?_, ?_⟩ <;> omega), ?_⟩
              refine ⟨⟨by omega, by omega, Nat.le_of_ble_eq_true rfl⟩, so0, ?_⟩
              refine D_count hG hV.k hV.c hV.f (fun q => absurd (by decide) q) (fun _ => QWx (fun J1 R1 c1 t1 j1 hRK1 hC1 => ?_))
              have hV1 := LV_cls hV j1 hRK1 hC1
              have hF1 : ∀ c : Int, is8 c → J1 F c.toNat = d8 z opA a c := fun c hc => by rw [j1 F hF0]; exact hF8 c hc
              clear hF8
              clear hV
              have hV := hV1
              have hF8 := hF1
              clear hF1
              clear hV1
              rw [if_neg (by decide), show cntZ z 11 = z 96 from rfl]
              refine af_I (cc := 1) (tt := 6) rfl rfl (by decide) ?_
              try dsimp only
              skip
              refine B_L_told_609 ?_
              try dsimp only
              skip
              refine ⟨_, by first | exact hF | exact (LH_app hS).1 | exact (LH_app hS).2.2.2, ⟨by omega, by omega⟩, ?_⟩
              skip
              rw [hV.l.d.2.1.1]
              refine ⟨⟨Nat.zero_le _, Nat.zero_le _, Nat.le_of_ble_eq_true rfl⟩, trivial, ?_⟩
              refine K_big hG (sm_in hV.l.d.2.2.1) ?_
              rw [bg_sm hV.l.d.2.2.1]
              refine af_I0 rfl rfl (by decide) ?_
              try dsimp only
              skip
              refine B_L_told_617 ?_
              try dsimp only
              skip
              refine ⟨fun c617_20 => ?_, fun c617_20 => ?_⟩
              · exfalso
                omega
              · refine ⟨⟨by omega, by omega, Nat.le_of_ble_eq_true rfl⟩, so0, ?_⟩
                refine D_count hG hV.k hV.c hV.f (fun q => absurd (by decide) q) (fun _ => QWx (fun J1 R1 c1 t1 j1 hRK1 hC1 => ?_))
                have hV1 := LV_cls hV j1 hRK1 hC1
                have hF1 : ∀ c : Int, is8 c → J1 F c.toNat = d8 z opA a c := fun c hc => by rw [j1 F hF0]; exact hF8 c hc
                clear hF8
                clear hV
                have hV := hV1
                have hF8 := hF1
                clear hF1
                clear hV1
                rw [if_neg (by decide), show cntZ z 12 = z 97 from rfl]
                refine af_I (cc := 1) (tt := 6) rfl rfl (by decide) ?_
                try dsimp only
                skip
                refine B_L_told_626 ?_
                try dsimp only
                skip
                refine ⟨_, by first | exact hF | exact (LH_app hS).1 | exact (LH_app hS).2.2.2, ⟨by omega, by omega⟩, ?_⟩
                skip
                rw [hV.l.d.2.1.2]
                refine ⟨⟨Nat.zero_le _, Nat.zero_le _, Nat.le_of_ble_eq_true rfl⟩, trivial, ?_⟩
                refine K_big hG (sm_in hV.l.d.2.2.2) ?_
                rw [bg_sm hV.l.d.2.2.2]
                refine af_I0 rfl rfl (by decide) ?_
                try dsimp only
                skip
                refine B_L_told_634 ?_
                try dsimp only
                skip
                refine ⟨fun c634_22 => ?_, fun c634_22 => ?_⟩
                · exfalso
                  omega
                · refine ⟨⟨Nat.zero_le _, Nat.zero_le _, Nat.le_of_ble_eq_true rfl⟩, so0, ?_⟩
                  refine D_strengthLeft hG hV.k hV.c hV.f (QWx (fun J1 R1 c1 t1 j1 hRK1 hC1 => ?_))
                  have hV1 := LV_cls hV j1 hRK1 hC1
                  clear hV
                  have hV := hV1
                  clear hV1
                  have hok := shZr_ok hV.b.2.1 hV.b.2.2.1 hV.b.2.2.2.2.2
                  refine af_I0 rfl rfl (by decide) ?_
                  try dsimp only
                  skip
                  refine B_L_told_641 ?_
                  try dsimp only
                  skip
                  refine ⟨fun c643_23 => ?_, fun c643_23 => ?_⟩
                  · refine B_L_told_650 ?_
                    try dsimp only
                    skip
                    have el : cntZ z 9 + cntZ z 10 = (((cntZ z 9 + cntZ z 10).toNat : Nat) : Int) := (Int.toNat_of_nonneg (by omega)).symm
                    have ef : fiN z (z 98).toNat = (((fiN z (z 98).toNat).toNat : Nat) : Int) := (Int.toNat_of_nonneg hfi.1).symm
                    have hm1 := mul1 (a := (cntZ z 9 + cntZ z 10).toNat) (by omega)
                    rw [← el] at hm1
                    have hsz : shZr z = FP.ddiv (FP.i2d (Int32.ofInt (cntZ z 9 + cntZ z 10))) (FP.i2d (Int32.ofInt (fiN z (z 98).toNat))) := by
                      unfold shZr shD
                      rw [if_neg (by omega), ← ef, ← e9, ← e10, ← el]
                    have hv1 : vf_n64 (FP.dmul FP.dconst1 (FP.i2d (Int32.ofInt (cntZ z 9 + cntZ z 10)))) := by rw [hm1.1]; exact hm1.2
                    refine ⟨by assumption, ?_⟩
                    rw [hm1.1, ← hsz]
                    have hv2 : vf_n64 (shZr z) := vf_small hok
                    refine ⟨by assumption, ?_⟩
                    refine B_L_told_659 ?_
                    try dsimp only
                    first
                      | (rw [hsz, cmpv_self hok])
                      | (rw [cmpv_self hok])
                    refine ⟨fun q => absurd rfl q, fun _ => ?_⟩
                    refine B_L_told_668 ?_
                    try dsimp only
                    refine ⟨Or.inr rfl, ?_⟩
                    exact hQ J1 R1 _ _ hV
                  · have hsz : shZr z = FP.dconst1 := by unfold shZr; rw [if_pos (by omega)]
                    rw [hsz] at hok
                    refine B_L_told_659 ?_
                    try dsimp only
                    first
                      | (rw [hsz, cmpv_self hok])
                      | (rw [cmpv_self hok])
                    refine ⟨fun q => absurd rfl q, fun _ => ?_⟩
                    refine B_L_told_668 ?_
                    try dsimp only
                    refine ⟨Or.inr rfl, ?_⟩
                    exact hQ J1 R1 _ _ hV
            · exfalso
              omega
/-- TOLD: all that is asked agrees -/
theorem K_told {G : amG} {I : Nat → Nat → Int} {R : Nat → Nat → Option Nat} {L : Nat → Nat → Int64} {c t : Nat} {Q : amR → amH → Prop} (hG : amG0 G) {sT : List (Nat × Nat)} (hS : LH (SH sT) 362 363 364) {z : Row} {nv : Int} {zs : Nat → Row} (hV : LV (361 + sT.length) I I R z nv zs) {x y : Int} (hx : 0 ≤ x) (hy : 0 ≤ y) (hQ : ∀ (U : List (Nat × Nat)) (J : Nat → Nat → Int) (R' : Nat → Nat → Option Nat) (L' : Nat → Nat → Int64) (c t : Nat), LV (361 + sT.length) I J R' z nv zs → Q (Sum.inl (some (aI 1))) (J, R', L', SH (sT ++ U), 0, c, t)) : CT G sL_told [aR (some 0), aI x, aI y, aR (some 361), aR (some 362), aR (some 363), aR (some 364)] (I, R, L, SH sT, 0, c, t) Q := by
  refine CT_of ok_L_told hG (Nat.le_of_ble_eq_true rfl) ?_
  show X G mL_told Q 0 _ [] (I, R, L, SH sT, 0, 400, 3000)
  have hZn := hV.l.n
  have hZm := hV.l.m
  have hn0 := hV.b.2.1.1
  have ho0 := hV.f.1.2.1.1.1
  refine B_L_told_0 ?_
  try dsimp only
  have e : SH sT = SH (sT ++ []) := by rw [List.append_nil]
  rw [e]
  refine KD_troops hG hS rfl (c0 := 280) (t0 := 1920) (fun J1 R1 L1 U1 c1 t1 k1 o9 o10 hV1 hc1 ht1 => ?_) 7 I R L [] 400 3000 0 _ _ (by decide) (by omega) hV (by omega) (by omega)
  refine B_L_told_204 ?_
  try dsimp only
  refine KD_orders hG hS rfl (c0 := 184) (t0 := 1344) (fun J2 R2 c2 t2 p2 D2 a10 a11 hV2 hc2 ht2 => ?_) 13 J1 R1 c1 t1 0 0 _ _ (by decide) (by omega) ⟨by decide, fun i hi => ⟨fun q => absurd q (by rw [Nat.zero_testBit]; decide), fun q => by have := rkN_b z i (z 195).toNat; omega⟩⟩ hV1 (by omega) (by omega)
  refine B_L_told_354 ?_
  try dsimp only
  refine KD_counts hG hS rfl (c0 := 173) (t0 := 1278) (fun J3 R3 c3 t3 k3 hV3 hc3 ht3 => ?_) 12 J2 R2 c2 t2 0 (by decide) (by decide) hV2 (by omega) (by omega)
  refine KD_far hG hS rfl hV3 hx hy (by omega) (by omega) (fun J4 R4 L4 U4 a b F hV4 ha hb hF hF0 hF8 => ?_)
  refine KD_ways hG hS rfl ha hb hV4 (fun w => ?_) 5 0 0 (by decide) (by decide) rfl
  exact KD_fin hG hS rfl ha hb hV4 hF hF0 hF8 (by omega) (by omega) (fun J5 R5 c5 t5 hV5 => hQ U4 J5 R5 L4 c5 t5 hV5)
