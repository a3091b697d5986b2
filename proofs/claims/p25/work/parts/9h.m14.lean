/-! ===== the law ===== -/
theorem L_turns {G : amG} {Q : amR → amH → Prop} (hG : amG0 G) (hg : gn G ≤ 2048) {sT : List (Nat × Nat)} (hS : LH (SH sT) 362 363 364) (hQ : ∀ h : amH, Q (Sum.inl (some (aI 1))) h) :
    ∀ (n : Nat) (J : Nat → Nat → Int) (R : Nat → Nat → Option Nat) (L : Nat → Nat → Int64) (U : List (Nat × Nat)) (c t : Nat) (z : Row) (nv : Int) (zs : Nat → Row) (i : Int) (o7 o8 : Option amV), 0 ≤ i → (20 - i < n ∧ i ≤ 20) → LV 0 J J R z nv zs → z 316 ≤ 5 * i → z 317 ≤ i → 1 ≤ nv → 600 * (20 - i).toNat + 400 ≤ c → 14000 * (20 - i).toNat + 100 ≤ t → X G mL_law Q 87 [some (aO (gb G)), some (aR (some 0)), some (aR (some 361)), some (aR (some 362)), some (aR (some 363)), some (aR (some 364)), some (aI i), o7, o8] [] (J, R, L, SH (sT ++ U), 0, c, t) := by
  intro n
  induction n with
  | zero =>
    intros
    exfalso; omega
  | succ n ih =>
    intro J R L U c t z nv zs i o7 o8 h0 hi hV h6 h7 hn1 hc ht
    have td6 : Int.tdiv i 6 = i / 6 := Int.tdiv_eq_ediv_of_nonneg h0
    refine B_L_law_87 ?_
    try dsimp only
    skip
    refine ⟨fun c91_0 => ?_, fun c91_0 => ?_⟩
    · refine B_L_law_230 ?_
      try dsimp only
      skip
      refine ⟨⟨by omega, by omega, Nat.le_of_ble_eq_true rfl⟩, so0, ?_⟩
      refine D_count hG hV.k hV.c hV.f (fun q => absurd (by decide) q) (fun _ => QWx (fun J1 R1 c1 t1 j1 hRK1 hC1 => ?_))
      rw [if_pos rfl]
      refine af_I (cc := 1) (tt := 6) rfl rfl (by decide) ?_
      try dsimp only
      skip
      refine B_L_law_236 ?_
      try dsimp only
      skip
      refine ⟨fun c236_2 => ?_, fun c236_2 => ?_⟩
      · refine B_L_law_243 ?_
        try dsimp only
        skip
        refine B_L_law_244 ?_
        try dsimp only
        skip
        refine ⟨by first | exact Or.inl rfl | exact Or.inr rfl | trivial | exact Or.inl trivial | exact Or.inr trivial | omega, ?_⟩
        first
          | exact hQ _
          | (exfalso; omega)
          | exact absurd rfl (by assumption)
          | exact absurd True.intro (by assumption)
      · refine B_L_law_244 ?_
        try dsimp only
        skip
        refine ⟨by first | exact Or.inl rfl | exact Or.inr rfl | trivial | exact Or.inl trivial | exact Or.inr trivial | omega, ?_⟩
        first
          | exact hQ _
          | (exfalso; omega)
          | exact absurd rfl (by assumption)
          | exact absurd True.intro (by assumption)
    · refine ⟨by (refine ⟨?_, ?_⟩ <;> omega), ?_⟩
      refine ⟨⟨Nat.zero_le _, Nat.zero_le _, Nat.le_of_ble_eq_true rfl⟩, trivial, ?_⟩
      refine K_cell hG ⟨by omega, by omega⟩ (fun q1 => ?_)
      refine af_I0 rfl rfl (by decide) ?_
      try dsimp only
      skip
      refine B_L_law_102 ?_
      try dsimp only
      skip
      obtain ⟨X, hXe, hX⟩ := an_m2 q1
      rw [hXe]
      refine ⟨by (refine ⟨?_, ?_⟩ <;> omega), ?_⟩
      refine ⟨by (refine ⟨?_, ?_⟩ <;> omega), ?_⟩
      refine ⟨⟨Nat.zero_le _, Nat.zero_le _, Nat.le_of_ble_eq_true rfl⟩, trivial, ?_⟩
      refine K_cell hG ⟨by omega, by omega⟩ (fun q2 => ?_)
      refine af_I0 rfl rfl (by decide) ?_
      try dsimp only
      skip
      refine B_L_law_117 ?_
      try dsimp only
      skip
      obtain ⟨Y, hYe, hY⟩ := an_m2 q2
      rw [hYe]
      refine ⟨fun c126_2 => ?_, fun c126_2 => ?_⟩
      · refine B_L_law_133 ?_
        try dsimp only
        skip
        refine ⟨fun c136_3 => ?_, fun c136_3 => ?_⟩
        · refine B_L_law_143 ?_
          try dsimp only
          skip
          refine ⟨⟨Nat.zero_le _, Nat.zero_le _, Nat.le_of_ble_eq_true rfl⟩, trivial, ?_⟩
          have hs13 := sh_s0 hX (k := 13) (by decide)
          refine K_at hG hs13.1 (by decide) (fun r r0 r1 => ?_)
          refine af_I0 rfl rfl (by decide) ?_
          try dsimp only
          skip
          refine B_L_law_153 ?_
          try dsimp only
          skip
          refine ⟨⟨by omega, by omega, Nat.le_of_ble_eq_true rfl⟩, trivial, ?_⟩
          refine K_act hG (LH_app (U := U) hS) hX hY ⟨by omega, by omega⟩ hn1 (by omega) (by omega) hV (fun J1 R1 L1 U1 c1 t1 z1 nv1 zs1 hV1 g6 g7 gn1 => ?_)
          rw [List.append_assoc sT]
          refine af_I (cc := 10) (tt := 640) rfl rfl (by decide) ?_
          try dsimp only
          skip
          refine B_L_law_166 ?_
          try dsimp only
          skip
          refine ⟨fun c166_6 => ?_, fun c166_6 => ?_⟩
          · first
              | exact absurd True.intro (by assumption)
              | exact absurd rfl (by assumption)
              | (exfalso; omega)
          · refine ⟨⟨by omega, by omega, Nat.le_of_ble_eq_true rfl⟩, trivial, ?_⟩
            have hsx3 := sh_s0 hX (k := 3) (by decide)
            have hsy3 := sh_s0 hY (k := 3) (by decide)
            refine K_told hG (LH_app (U := U ++ U1) hS) (LV_any hV1) hsx3.1 hsy3.1 (fun U2 J2 R2 L2 c2 t2 hV2a => ?_)
            have hV2 := LV_any (M := 0) hV2a
            rw [List.append_assoc sT]
            refine af_I (cc := 400) (tt := 3000) rfl rfl (by decide) ?_
            try dsimp only
            skip
            refine B_L_law_187 ?_
            try dsimp only
            skip
            refine ⟨fun c187_7 => ?_, fun c187_7 => ?_⟩
            · refine B_L_law_192 ?_
              try dsimp only
              skip
              refine ⟨⟨by decide, by (refine ⟨?_, ?_⟩ <;> omega)⟩, ?_⟩
              refine ⟨fun c198_8 => ?_, fun c198_8 => ?_⟩
              · refine B_L_law_224 ?_
                try dsimp only
                skip
                refine ⟨by (refine ⟨?_, ?_⟩ <;> omega), ?_⟩
                refine ih J2 R2 L2 _ _ _ z1 nv1 zs1 (i + 1) _ _ ?_ ?_ hV2 ?_ ?_ gn1 ?_ ?_ <;> omega
              · refine ⟨⟨by omega, by omega, Nat.le_of_ble_eq_true rfl⟩, trivial, ?_⟩
                have hsx2 := sh_s0 hX (k := 2) (by decide)
                have hsy2 := sh_s0 hY (k := 2) (by decide)
                refine K_ahead hG (LH_app (U := U ++ U1 ++ U2) hS) (LV_any hV2) hsy2 hsx2.1 (fun U3 J3 R3 L3 c3 t3 hV3a => ?_)
                have hV3 := LV_any (M := 0) hV3a
                clear hV2 hV2a
                revert hV3 hV3a
                generalize J3 = J2
                generalize R3 = R2
                generalize L3 = L2
                intro hV3a hV2
                rw [List.append_assoc sT]
                refine af_I (cc := 160) (tt := 10240) rfl rfl (by decide) ?_
                try dsimp only
                skip
                refine B_L_law_219 ?_
                try dsimp only
                skip
                refine ⟨fun c219_9 => ?_, fun c219_9 => ?_⟩
                · refine B_L_law_224 ?_
                  try dsimp only
                  skip
                  refine ⟨by (refine ⟨?_, ?_⟩ <;> omega), ?_⟩
                  refine ih J2 R2 L2 _ _ _ z1 nv1 zs1 (i + 1) _ _ ?_ ?_ hV2 ?_ ?_ gn1 ?_ ?_ <;> omega
                · refine ⟨by first | exact Or.inl rfl | exact Or.inr rfl | trivial | exact Or.inl trivial | exact Or.inr trivial | omega, ?_⟩
                  first
                    | exact hQ _
                    | (exfalso; omega)
                    | exact absurd rfl (by assumption)
                    | exact absurd True.intro (by assumption)
            · first
                | exact absurd True.intro (by assumption)
                | exact absurd rfl (by assumption)
                | (exfalso; omega)
        · refine B_L_law_153 ?_
          try dsimp only
          skip
          refine ⟨⟨by omega, by omega, Nat.le_of_ble_eq_true rfl⟩, trivial, ?_⟩
          refine K_act hG (LH_app (U := U) hS) hX hY ⟨by omega, by omega⟩ hn1 (by omega) (by omega) hV (fun J1 R1 L1 U1 c1 t1 z1 nv1 zs1 hV1 g6 g7 gn1 => ?_)
          rw [List.append_assoc sT]
          refine af_I (cc := 10) (tt := 640) rfl rfl (by decide) ?_
          try dsimp only
          skip
          refine B_L_law_166 ?_
          try dsimp only
          skip
          refine ⟨fun c166_5 => ?_, fun c166_5 => ?_⟩
          · first
              | exact absurd True.intro (by assumption)
              | exact absurd rfl (by assumption)
              | (exfalso; omega)
          · refine ⟨⟨by omega, by omega, Nat.le_of_ble_eq_true rfl⟩, trivial, ?_⟩
            have hsx3 := sh_s0 hX (k := 3) (by decide)
            have hsy3 := sh_s0 hY (k := 3) (by decide)
            refine K_told hG (LH_app (U := U ++ U1) hS) (LV_any hV1) hsx3.1 hsy3.1 (fun U2 J2 R2 L2 c2 t2 hV2a => ?_)
            have hV2 := LV_any (M := 0) hV2a
            rw [List.append_assoc sT]
            refine af_I (cc := 400) (tt := 3000) rfl rfl (by decide) ?_
            try dsimp only
            skip
            refine B_L_law_187 ?_
            try dsimp only
            skip
            refine ⟨fun c187_6 => ?_, fun c187_6 => ?_⟩
            · refine B_L_law_192 ?_
              try dsimp only
              skip
              refine ⟨⟨by decide, by (refine ⟨?_, ?_⟩ <;> omega)⟩, ?_⟩
              refine ⟨fun c198_7 => ?_, fun c198_7 => ?_⟩
              · refine B_L_law_224 ?_
                try dsimp only
                skip
                refine ⟨by (refine ⟨?_, ?_⟩ <;> omega), ?_⟩
                refine ih J2 R2 L2 _ _ _ z1 nv1 zs1 (i + 1) _ _ ?_ ?_ hV2 ?_ ?_ gn1 ?_ ?_ <;> omega
              · refine ⟨⟨by omega, by omega, Nat.le_of_ble_eq_true rfl⟩, trivial, ?_⟩
                have hsx2 := sh_s0 hX (k := 2) (by decide)
                have hsy2 := sh_s0 hY (k := 2) (by decide)
                refine K_ahead hG (LH_app (U := U ++ U1 ++ U2) hS) (LV_any hV2) hsy2 hsx2.1 (fun U3 J3 R3 L3 c3 t3 hV3a => ?_)
                have hV3 := LV_any (M := 0) hV3a
                clear hV2 hV2a
                revert hV3 hV3a
                generalize J3 = J2
                generalize R3 = R2
                generalize L3 = L2
                intro hV3a hV2
                rw [List.append_assoc sT]
                refine af_I (cc := 160) (tt := 10240) rfl rfl (by decide) ?_
                try dsimp only
                skip
                refine B_L_law_219 ?_
                try dsimp only
                skip
                refine ⟨fun c219_8 => ?_, fun c219_8 => ?_⟩
                · refine B_L_law_224 ?_
                  try dsimp only
                  skip
                  refine ⟨by (refine ⟨?_, ?_⟩ <;> omega), ?_⟩
                  refine ih J2 R2 L2 _ _ _ z1 nv1 zs1 (i + 1) _ _ ?_ ?_ hV2 ?_ ?_ gn1 ?_ ?_ <;> omega
                · refine ⟨by first | exact Or.inl rfl | exact Or.inr rfl | trivial | exact Or.inl trivial | exact Or.inr trivial | omega, ?_⟩
                  first
                    | exact hQ _
                    | (exfalso; omega)
                    | exact absurd rfl (by assumption)
                    | exact absurd True.intro (by assumption)
            · first
                | exact absurd True.intro (by assumption)
                | exact absurd rfl (by assumption)
                | (exfalso; omega)
      · refine B_L_law_153 ?_
        try dsimp only
        skip
        refine ⟨⟨by omega, by omega, Nat.le_of_ble_eq_true rfl⟩, trivial, ?_⟩
        refine K_act hG (LH_app (U := U) hS) hX hY ⟨by omega, by omega⟩ hn1 (by omega) (by omega) hV (fun J1 R1 L1 U1 c1 t1 z1 nv1 zs1 hV1 g6 g7 gn1 => ?_)
        rw [List.append_assoc sT]
        refine af_I (cc := 10) (tt := 640) rfl rfl (by decide) ?_
        try dsimp only
        skip
        refine B_L_law_166 ?_
        try dsimp only
        skip
        refine ⟨fun c166_4 => ?_, fun c166_4 => ?_⟩
        · first
            | exact absurd True.intro (by assumption)
            | exact absurd rfl (by assumption)
            | (exfalso; omega)
        · refine ⟨⟨by omega, by omega, Nat.le_of_ble_eq_true rfl⟩, trivial, ?_⟩
          have hsx3 := sh_s0 hX (k := 3) (by decide)
          have hsy3 := sh_s0 hY (k := 3) (by decide)
          refine K_told hG (LH_app (U := U ++ U1) hS) (LV_any hV1) hsx3.1 hsy3.1 (fun U2 J2 R2 L2 c2 t2 hV2a => ?_)
          have hV2 := LV_any (M := 0) hV2a
          rw [List.append_assoc sT]
          refine af_I (cc := 400) (tt := 3000) rfl rfl (by decide) ?_
          try dsimp only
          skip
          refine B_L_law_187 ?_
          try dsimp only
          skip
          refine ⟨fun c187_5 => ?_, fun c187_5 => ?_⟩
          · refine B_L_law_192 ?_
            try dsimp only
            skip
            refine ⟨⟨by decide, by (refine ⟨?_, ?_⟩ <;> omega)⟩, ?_⟩
            refine ⟨fun c198_6 => ?_, fun c198_6 => ?_⟩
            · refine B_L_law_224 ?_
              try dsimp only
              skip
              refine ⟨by (refine ⟨?_, ?_⟩ <;> omega), ?_⟩
              refine ih J2 R2 L2 _ _ _ z1 nv1 zs1 (i + 1) _ _ ?_ ?_ hV2 ?_ ?_ gn1 ?_ ?_ <;> omega
            · refine ⟨⟨by omega, by omega, Nat.le_of_ble_eq_true rfl⟩, trivial, ?_⟩
              have hsx2 := sh_s0 hX (k := 2) (by decide)
              have hsy2 := sh_s0 hY (k := 2) (by decide)
              refine K_ahead hG (LH_app (U := U ++ U1 ++ U2) hS) (LV_any hV2) hsy2 hsx2.1 (fun U3 J3 R3 L3 c3 t3 hV3a => ?_)
              have hV3 := LV_any (M := 0) hV3a
              clear hV2 hV2a
              revert hV3 hV3a
              generalize J3 = J2
              generalize R3 = R2
              generalize L3 = L2
              intro hV3a hV2
              rw [List.append_assoc sT]
              refine af_I (cc := 160) (tt := 10240) rfl rfl (by decide) ?_
              try dsimp only
              skip
              refine B_L_law_219 ?_
              try dsimp only
              skip
              refine ⟨fun c219_7 => ?_, fun c219_7 => ?_⟩
              · refine B_L_law_224 ?_
                try dsimp only
                skip
                refine ⟨by (refine ⟨?_, ?_⟩ <;> omega), ?_⟩
                refine ih J2 R2 L2 _ _ _ z1 nv1 zs1 (i + 1) _ _ ?_ ?_ hV2 ?_ ?_ gn1 ?_ ?_ <;> omega
              · refine ⟨by first | exact Or.inl rfl | exact Or.inr rfl | trivial | exact Or.inl trivial | exact Or.inr trivial | omega, ?_⟩
                first
                  | exact hQ _
                  | (exfalso; omega)
                  | exact absurd rfl (by assumption)
                  | exact absurd True.intro (by assumption)
          · first
              | exact absurd True.intro (by assumption)
              | exact absurd rfl (by assumption)
              | (exfalso; omega)
def T4 : List (Nat × Nat) := [(20, 64), (20, 48), (20, 48), (20, 9)]
theorem T4_SH : s9 ++ [(20, 64)] ++ [(20, 48)] ++ [(20, 48)] ++ [(20, 9)] = SH T4 := by
  rw [s9_SH]
  unfold SH T4
  rw [List.append_assoc, List.append_assoc, List.append_assoc]
  rfl
theorem hS4 : LH (SH T4) 362 363 364 := ⟨by rw [SH_ge (k := 0)]; rfl, by rw [show 362 = 361 + 1 from rfl, SH_ge (k := 1)]; rfl, by rw [show 363 = 361 + 2 from rfl, SH_ge (k := 2)]; rfl, by rw [show 364 = 361 + 3 from rfl, SH_ge (k := 3)]; rfl⟩
theorem L_47 {G : amG} {Q : amR → amH → Prop} (hG : amG0 G) (hg : gn G ≤ 2048) (hQ : ∀ h : amH, Q (Sum.inl (some (aI 1))) h) {R1 : Nat → Nat → Option Nat} {J1 : Nat → Nat → Int} {L : Nat → Nat → Int64} {c t : Nat} (hc : 590000 ≤ c) (ht : 7000000 ≤ t) (hRK1 : RK R1) (hC1 : CS J1 R1 (shZ z0W 8 95 9 88).1 (svN 0) (svZ 0 (fun _ _ => 0) z0W)) (j1 : ∀ a : Nat, 361 ≤ a → J1 a = u2 i9c 364 8 63 a) : X G mL_law Q 47 [some (aO (gb G)), some (aR (some 0)), some (aR (some 361)), some (aR (some 362)), some (aR (some 363)), some (aR (some 364)), none, none, none] [aI 32] (J1, R1, L, SH T4, 0, c, t) := by
  refine B_L_law_47 ?_
  try dsimp only
  skip
  refine ⟨fun c49_0 => ?_, fun c49_0 => ?_⟩
  · refine B_L_law_82 ?_
    try dsimp only
    skip
    refine ⟨by first | exact Or.inl rfl | exact Or.inr rfl | trivial | exact Or.inl trivial | exact Or.inr trivial | omega, ?_⟩
    first
      | exact absurd True.intro (by assumption)
      | exact absurd rfl (by assumption)
      | (exfalso; omega)
  · refine ⟨⟨Nat.zero_le _, Nat.zero_le _, Nat.le_of_ble_eq_true rfl⟩, trivial, ?_⟩
    refine K_big hG (by unfold is8; decide) ?_
    rw [show bg 63 = 91 from rfl]
    refine af_I0 rfl rfl (by decide) ?_
    try dsimp only
    skip
    refine B_L_law_59 ?_
    try dsimp only
    skip
    refine ⟨⟨by omega, by omega, Nat.le_of_ble_eq_true rfl⟩, so0, ?_⟩
    refine D_moveGeneral hG hRK1 hC1 cl_ZF (fun q => absurd (by decide) q) (fun _ => QWx (fun J2 R2 c2 t2 j2 hRK2 hC2 => ?_))
    have e95 : (shZ z0W 8 95 9 88).1 ((96 : Int) + 1).toNat = 95 := (cl_WF.2 _ (by decide)).trans z0_97
    rw [e95]
    have hZ2 : LZ J2 362 363 364 z2W := z2_LZ (fun j => by rw [j2 361 (by decide), j1 361 (by decide), u2_off _ _ _ (by decide)]; exact zIc 361 (by decide) j) (fun j => by
      rw [j2 364 (by decide), j1 364 (by decide), u2_at]
      unfold uz
      split
      · rfl
      · exact zIc 364 (by decide) j)
    have hV2 : LV 0 J2 J2 R2 z2W (svN (svN 0)) _ := LV_of hRK2 hC2 z2_WF (by rw [z2_at (by decide) (by decide)]; decide) (by rw [z2_at (by decide) (by decide)]; decide) hZ2
    refine af_I (cc := 2) (tt := 12) rfl rfl (by decide) ?_
    try dsimp only
    skip
    refine B_L_law_62 ?_
    try dsimp only
    skip
    refine ⟨fun c64_2 => ?_, fun c64_2 => ?_⟩
    · refine B_L_law_82 ?_
      try dsimp only
      skip
      refine ⟨by first | exact Or.inl rfl | exact Or.inr rfl | trivial | exact Or.inl trivial | exact Or.inr trivial | omega, ?_⟩
      first
        | exact absurd True.intro (by assumption)
        | exact absurd rfl (by assumption)
        | (exfalso; omega)
    · refine ⟨⟨by omega, by omega, Nat.le_of_ble_eq_true rfl⟩, trivial, ?_⟩
      refine K_told (sT := T4) hG hS4 (LV_any hV2) (by decide) (by decide) (fun U3 J3 R3 L3 c3 t3 hV3a => ?_)
      have hV3 := LV_any (M := 0) hV3a
      rw [SH_app]
      refine af_I (cc := 400) (tt := 3000) rfl rfl (by decide) ?_
      try dsimp only
      skip
      refine B_L_law_79 ?_
      try dsimp only
      skip
      refine ⟨fun c79_3 => ?_, fun c79_3 => ?_⟩
      · refine B_L_law_84 ?_
        try dsimp only
        skip
        rw [← SH_app]
        exact L_turns hG hg hS4 hQ 21 J3 R3 L3 U3 _ _ z2W _ _ 0 _ _ (by decide) (by decide) hV3 (by rw [z2_at (by decide) (by decide)]; decide) (by rw [z2_at (by decide) (by decide)]; decide) (by decide) (by omega) (by omega)
      · refine B_L_law_82 ?_
        try dsimp only
        skip
        refine ⟨by first | exact Or.inl rfl | exact Or.inr rfl | trivial | exact Or.inl trivial | exact Or.inr trivial | omega, ?_⟩
        first
          | exact absurd True.intro (by assumption)
          | exact absurd rfl (by assumption)
          | (exfalso; omega)
theorem X_law {G : amG} {Q : amR → amH → Prop} (hG : amG0 G) (hg : gn G ≤ 2048) (hQ : ∀ h : amH, Q (Sum.inl (some (aI 1))) h) : X G mL_law Q 0 [some (aO (gb G)), none, none, none, none, none, none, none, none] [] (fun _ _ => 0, fun _ _ => none, fun _ _ => 0, [], 0, 600130, 7301080) := by
  have zI0 : Zz (fun _ _ => (0 : Int)) 0 0 := fun _ _ _ => rfl
  have zR0 : Zz (fun _ _ => (none : Option Nat)) none 0 := fun _ _ _ => rfl
  have zL0 : ∀ k : Nat, Zz (fun _ _ => (0 : Int64)) 0 k := fun _ _ _ _ => rfl
  have g0 : s9.length = 361 := s9_len
  have g1 : (s9 ++ [(20, 64)]).length = 362 := by rw [List.length_append, g0]; rfl
  have g2 : (s9 ++ [(20, 64)] ++ [(20, 48)]).length = 363 := by rw [List.length_append, g1]; rfl
  have g3 : (s9 ++ [(20, 64)] ++ [(20, 48)] ++ [(20, 48)]).length = 364 := by rw [List.length_append, g2]; rfl
  have zI1 : Zz i9c 0 361 := Zz_le zIc (by decide)
  have zR1 : Zz r9 none 361 := Zz_le (Zz_u2 (Zz_u2 (Zz_u2 (Zz_u2 (Zz_u2 (Zz_u2 (Zz_le zRe (by decide)) (by decide) _ _) (by decide) _ _) (by decide) _ _) (by decide) _ _) (by decide) _ _) (by decide) _ _ : Zz r9 none 358) (by decide)
  have h7 : X G mL_law Q 7 [some (aO (gb G)), none, none, none, none, none, none, none, none] [aR (some 0)] (i9c, r9, fun _ _ => 0, s9, 0, 599769, 7297719) := by
    refine B_L_law_7 ?_
    dsimp only
    rw [g0, g1, g2, g3, T4_SH, Zz_u1 (a := 361) zI1 (by decide), Zz_u1 (a := 362) zI1 (by decide), Zz_u1 (a := 363) zI1 (by decide), Zz_u1 (a := 364) zI1 (by decide), Zz_u1 (a := 361) zR1 (by decide), Zz_u1 (a := 362) zR1 (by decide), Zz_u1 (a := 363) zR1 (by decide), Zz_u1 (a := 364) zR1 (by decide), Zz_u1 (a := 361) (zL0 0) (by decide), Zz_u1 (a := 362) (zL0 0) (by decide), Zz_u1 (a := 363) (zL0 0) (by decide), Zz_u1 (a := 364) (zL0 0) (by decide)]
    refine ⟨⟨by decide, by decide, by decide, by decide, rfl⟩, ⟨by decide, by decide, by decide, by decide, rfl⟩, ⟨by decide, by decide, by decide, by decide, rfl⟩, ⟨by decide, by decide, by decide, by decide, rfl⟩, ⟨_, hS4.2.2.2, ⟨by decide, by decide⟩, ⟨by decide, by decide, Nat.le_of_ble_eq_true rfl⟩, so0, ?_⟩⟩
    have z0F : ZF z0W := ⟨z0_WF, by decide, by decide⟩
    refine D_shape hG r9_RK (CS_off i9_CS z0F (fun c hc => by rw [u2_off _ _ _ (by omega)])) z0F (fun q => absurd (by decide) q) (fun q => absurd (by decide) q.2) (fun _ => QWx (fun J1 R1 c1 t1 j1 hRK1 hC1 => ?_))
    rw [show ((95 : Int) - 8 + 1).toNat = 88 from rfl] at hC1 ⊢
    rw [cl_v]
    refine af_I (cc := 3) (tt := 18) rfl rfl (by decide) ?_
    exact L_47 hG hg hQ (Nat.le_of_ble_eq_true rfl) (Nat.le_of_ble_eq_true rfl) hRK1 hC1 j1
  refine B_L_law_0 ?_
  dsimp only
  try rw [show ([] : List (Nat × Nat)).length = 0 from rfl]
  rw [Zz_u1 (a := 0) zI0 (by decide), Zz_u1 (a := 0) zR0 (by decide), Zz_u1 (a := 0) (zL0 0) (by decide)]
  refine ⟨⟨by decide, by decide, rfl⟩, rfl, ⟨by decide, by decide, Nat.le_of_ble_eq_true rfl⟩, True.intro, ?_⟩
  refine D_X9_init hG ?_
  refine af_N (cc := 360) (tt := 3355) rfl rfl rfl ?_
  exact h7
