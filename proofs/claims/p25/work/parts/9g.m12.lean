/-! ===== act ===== -/
theorem KA_turns {G : amG} {Q : amR → amH → Prop} (hG : amG0 G) {sT : List (Nat × Nat)} (hS : LH (SH sT) 362 363 364) {z : Row} {nv : Int} {zs : Nat → Row} {x y m : Int} (hx : 0 ≤ x ∧ x ≤ 2147483647) (hy : 0 ≤ y ∧ y ≤ 2147483647) (hm : 0 ≤ m ∧ m ≤ 14) (hn1 : 1 ≤ nv) (h6 : z 316 ≤ 200) (h7 : z 317 ≤ 200) {u : Int} (hu : 1 ≤ u ∧ u ≤ 5) (hf : ZF z) (hQ : ∀ (J : Nat → Nat → Int) (R : Nat → Nat → Option Nat) (L : Nat → Nat → Int64) (U : List (Nat × Nat)) (c t : Nat) (z' : Row) (nv' : Int) (zs' : Nat → Row), LV 0 J J R z' nv' zs' → z' 316 ≤ z 316 + 5 → z' 317 ≤ z 317 + 1 → 1 ≤ nv' → Q (Sum.inl (some (aI 1))) (J, R, L, SH (sT ++ U), 0, c, t)) :
    ∀ (n : Nat) (J : Nat → Nat → Int) (R : Nat → Nat → Option Nat) (L : Nat → Nat → Int64) (U : List (Nat × Nat)) (c t : Nat) (i : Int), 0 ≤ i → (u - i < n ∧ i ≤ u) → RK R → CS J R z nv zs → LZ J 362 363 364 (passN z i.toNat) → 3 + (u - i).toNat ≤ c → 18 + 64 * (u - i).toNat ≤ t → X G mL_act Q 690 [some (aR (some 0)), some (aI m), some (aI x), some (aI y), some (aR (some 361)), some (aR (some 362)), some (aR (some 363)), some (aR (some 364)), some (aI u), some (aI (z 319 + z 320)), some (aI i), none, none] [] (J, R, L, SH (sT ++ U), 0, c, t) := by
  intro n
  induction n with
  | zero =>
    intros
    exfalso; omega
  | succ n ih =>
    intro J R L U c t i h0 hi hk hcs hZ hc ht
    have hWi := passN_inv hf.1 i.toNat (by omega)
    refine B_L_act_690 ?_
    try dsimp only
    skip
    refine ⟨fun c694_0 => ?_, fun c694_0 => ?_⟩
    · refine B_L_act_714 ?_
      try dsimp only
      skip
      refine ⟨⟨by omega, by omega, Nat.le_of_ble_eq_true rfl⟩, so0, ?_⟩
      have hiu : i = u := by omega
      subst hiu
      refine D_pass hG hk hcs hf (fun q => absurd ⟨hu.1, by omega⟩ q) (fun q => absurd q.2 (by omega)) (fun _ => QWx (fun J1 R1 c1 t1 j1 hRK1 hC1 => ?_))
      have hZ5 : LZ J1 362 363 364 (passN z i.toNat) := LZ_off hZ (fun e he => j1 e (by omega))
      have hw5 := hWi.1.2.2
      have hw4 := hf.1.2.2
      have d5 := hZ5.d.1.2.2.2.2.2.1
      have d6 := hZ5.d.1.2.2.2.2.2.2
      have b316 := hw4.1
      have b319 := hw4.2.2.2.1
      have b320 := hw4.2.2.2.2.1
      have a316 := hWi.2.1
      have a319 := hw5.2.2.2.1
      have a320 := hw5.2.2.2.2.1
      refine af_I (cc := 2) (tt := 12) rfl rfl (by decide) ?_
      try dsimp only
      skip
      refine B_L_act_720 ?_
      try dsimp only
      skip
      refine ⟨_, by first | exact (LH_app hS).2.1 | exact (LH_app hS).2.2.1 | exact (LH_app hS).2.2.2 | exact (LH_app hS).1, ⟨by omega, by omega⟩, ?_⟩
      skip
      refine ⟨_, by first | exact (LH_app hS).2.1 | exact (LH_app hS).2.2.1 | exact (LH_app hS).2.2.2 | exact (LH_app hS).1, ⟨by omega, by omega⟩, ?_⟩
      skip
      refine ⟨by (refine ⟨?_, ?_⟩ <;> omega), ?_⟩
      refine ⟨by (refine ⟨?_, ?_⟩ <;> omega), ?_⟩
      refine ⟨fun c733_2 => ?_, fun c733_2 => ?_⟩
      · refine B_L_act_740 ?_
        try dsimp only
        skip
        refine B_L_act_741 ?_
        try dsimp only
        skip
        refine ⟨by first | exact Or.inl rfl | exact Or.inr rfl | trivial | exact Or.inl trivial | exact Or.inr trivial | omega, ?_⟩
        first
          | (exfalso; omega)
          | exact hQ J1 R1 L U _ _ (passN z i.toNat) (svN nv) _ (LV_of hRK1 hC1 hWi.1 (by omega) (by have := hWi.2.2.2.1; omega) hZ5) (by omega) (by have := hWi.2.2.2.1; omega) (svN_1 hn1)
      · refine B_L_act_741 ?_
        try dsimp only
        skip
        refine ⟨by first | exact Or.inl rfl | exact Or.inr rfl | trivial | exact Or.inl trivial | exact Or.inr trivial | omega, ?_⟩
        first
          | (exfalso; omega)
          | exact hQ J1 R1 L U _ _ (passN z i.toNat) (svN nv) _ (LV_of hRK1 hC1 hWi.1 (by omega) (by have := hWi.2.2.2.1; omega) hZ5) (by omega) (by have := hWi.2.2.2.1; omega) (svN_1 hn1)
    · refine ⟨⟨by omega, by omega, Nat.le_of_ble_eq_true rfl⟩, trivial, ?_⟩
      refine K_turn hG (LH_app hS) LA0 hZ hWi.1 (by rw [hWi.2.1]; omega) (fun U2 J2 R2 L2 c2 t2 hZ3 hfr hrr => ?_)
      have hla := ge_lt (LH_app (U := U) hS).2.2.2
      have hk2 : RK R2 := RK_lt hk (fun e he => hrr e (by omega))
      have hcs2 : CS J2 R2 z nv zs := CS_lt hcs hf (fun e he => hfr e (by omega) (by omega) (by omega) (by omega)) (fun e he => hrr e (by omega))
      have hZ4 : LZ J2 362 363 364 (passN z (i + 1).toNat) := by
        rw [show (i + 1).toNat = i.toNat + 1 by omega, passN_s]
        exact hZ3
      rw [← SH_app, List.append_assoc]
      refine af_N (cc := 1) (tt := 64) rfl rfl rfl ?_
      try dsimp only
      skip
      refine B_L_act_708 ?_
      try dsimp only
      skip
      refine ⟨by (refine ⟨?_, ?_⟩ <;> omega), ?_⟩
      exact ih J2 R2 L2 (U ++ U2) _ _ (i + 1) (by omega) (by omega) hk2 hcs2 hZ4 (by omega) (by omega)
theorem KA_pass {G : amG} {Q : amR → amH → Prop} (hG : amG0 G) {sT : List (Nat × Nat)} (hS : LH (SH sT) 362 363 364) {z : Row} {nv : Int} {zs : Nat → Row} {x y m : Int} (hx : 0 ≤ x ∧ x ≤ 2147483647) (hy : 0 ≤ y ∧ y ≤ 2147483647) (hm : 0 ≤ m ∧ m ≤ 14) (hn1 : 1 ≤ nv) (h6 : z 316 ≤ 200) (h7 : z 317 ≤ 200) (hQ : ∀ (J : Nat → Nat → Int) (R : Nat → Nat → Option Nat) (L : Nat → Nat → Int64) (U : List (Nat × Nat)) (c t : Nat) (z' : Row) (nv' : Int) (zs' : Nat → Row), LV 0 J J R z' nv' zs' → z' 316 ≤ z 316 + 5 → z' 317 ≤ z 317 + 1 → 1 ≤ nv' → Q (Sum.inl (some (aI 1))) (J, R, L, SH (sT ++ U), 0, c, t)) {J : Nat → Nat → Int} {R : Nat → Nat → Option Nat} {L : Nat → Nat → Int64} {U : List (Nat × Nat)} {c t : Nat} (hV : LV 0 J J R z nv zs) (hc : 8 ≤ c) (ht : 338 ≤ t) : X G mL_act Q 666 [some (aR (some 0)), some (aI m), some (aI x), some (aI y), some (aR (some 361)), some (aR (some 362)), some (aR (some 363)), some (aR (some 364)), none, none, none, none, none] [] (J, R, L, SH (sT ++ U), 0, c, t) := by
  have hw4 := hV.f.1.2.2
  have b316 := hw4.1
  have b319 := hw4.2.2.2.1
  have b320 := hw4.2.2.2.2.1
  refine B_L_act_666 ?_
  try dsimp only
  try simp only [hV.l.d.1.2.2.2.2.2.1, hV.l.d.1.2.2.2.2.2.2]
  refine ⟨⟨Nat.zero_le _, Nat.zero_le _, Nat.le_of_ble_eq_true rfl⟩, trivial, ?_⟩
  refine K_at hG hy.1 (by decide) (fun r r0 r1 => ?_)
  refine af_I0 rfl rfl (by decide) ?_
  try dsimp only
  try simp only [hV.l.d.1.2.2.2.2.2.1, hV.l.d.1.2.2.2.2.2.2]
  refine B_L_act_672 ?_
  try dsimp only
  try simp only [hV.l.d.1.2.2.2.2.2.1, hV.l.d.1.2.2.2.2.2.2]
  refine ⟨by (refine ⟨?_, ?_⟩ <;> omega), ?_⟩
  refine ⟨_, by first | exact (LH_app hS).2.1 | exact (LH_app hS).2.2.1 | exact (LH_app hS).2.2.2 | exact (LH_app hS).1, ⟨by omega, by omega⟩, ?_⟩
  try simp only [hV.l.d.1.2.2.2.2.2.1, hV.l.d.1.2.2.2.2.2.2]
  refine ⟨_, by first | exact (LH_app hS).2.1 | exact (LH_app hS).2.2.1 | exact (LH_app hS).2.2.2 | exact (LH_app hS).1, ⟨by omega, by omega⟩, ?_⟩
  try simp only [hV.l.d.1.2.2.2.2.2.1, hV.l.d.1.2.2.2.2.2.2]
  refine ⟨by (refine ⟨?_, ?_⟩ <;> omega), ?_⟩
  exact KA_turns hG hS hx hy hm hn1 h6 h7 (u := 1 + r) ⟨by omega, by omega⟩ hV.f hQ 7 J R L U _ _ 0 (by decide) (by omega) hV.k hV.c hV.l (by omega) (by omega)
theorem KA_order {G : amG} {Q : amR → amH → Prop} (hG : amG0 G) {sT : List (Nat × Nat)} (hS : LH (SH sT) 362 363 364) {z : Row} {nv : Int} {zs : Nat → Row} {x y m : Int} (hx : 0 ≤ x ∧ x ≤ 2147483647) (hy : 0 ≤ y ∧ y ≤ 2147483647) (hm : 0 ≤ m ∧ m ≤ 14) (hn1 : 1 ≤ nv) (h6 : z 316 ≤ 200) (h7 : z 317 ≤ 200) (hQ : ∀ (J : Nat → Nat → Int) (R : Nat → Nat → Option Nat) (L : Nat → Nat → Int64) (U : List (Nat × Nat)) (c t : Nat) (z' : Row) (nv' : Int) (zs' : Nat → Row), LV 0 J J R z' nv' zs' → z' 316 ≤ z 316 + 5 → z' 317 ≤ z 317 + 1 → 1 ≤ nv' → Q (Sum.inl (some (aI 1))) (J, R, L, SH (sT ++ U), 0, c, t)) {J : Nat → Nat → Int} {R : Nat → Nat → Option Nat} {L : Nat → Nat → Int64} {U : List (Nat × Nat)} {c t : Nat} (hV : LV 0 J J R z nv zs) (hc : 10 ≤ c) (ht : 640 ≤ t) : X G mL_act Q 484 [some (aR (some 0)), some (aI m), some (aI x), some (aI y), some (aR (some 361)), some (aR (some 362)), some (aR (some 363)), some (aR (some 364)), none, none, none, none, none] [] (J, R, L, SH (sT ++ U), 0, c, t) := by
  have hm0 : 0 ≤ z 195 := hV.f.1.2.1.1.1
  have hmm := hV.l.m
  have hnn := hV.l.n
  have hn0 := hV.b.2.1.1
  have b316 := hV.f.1.2.2.1
  have b317 := hV.f.1.2.2.2.1
  refine B_L_act_484 ?_
  try dsimp only
  (try simp (disch := omega) only [u2_same, u2_ne]); (try simp (disch := omega) only [hV.l.d.n, hV.l.d.1.1, hV.l.d.1.2.2.1, hV.l.d.1.2.2.2.1, hV.l.t.e0])
  refine ⟨_, by first | exact (LH_app hS).2.1 | exact (LH_app hS).2.2.1 | exact (LH_app hS).2.2.2 | exact (LH_app hS).1, ⟨by omega, by omega⟩, ?_⟩
  (try simp (disch := omega) only [u2_same, u2_ne]); (try simp (disch := omega) only [hV.l.d.n, hV.l.d.1.1, hV.l.d.1.2.2.1, hV.l.d.1.2.2.2.1, hV.l.t.e0])
  refine ⟨fun c488_0 => ?_, fun c488_0 => ?_⟩
  · refine B_L_act_493 ?_
    try dsimp only
    (try simp (disch := omega) only [u2_same, u2_ne]); (try simp (disch := omega) only [hV.l.d.n, hV.l.d.1.1, hV.l.d.1.2.2.1, hV.l.d.1.2.2.2.1, hV.l.t.e0])
    refine ⟨fun c496_1 => ?_, fun c496_1 => ?_⟩
    · exact KA_pass hG hS hx hy hm hn1 h6 h7 hQ hV (by omega) (by omega)
    · refine ⟨_, by first | exact (LH_app hS).2.1 | exact (LH_app hS).2.2.1 | exact (LH_app hS).2.2.2 | exact (LH_app hS).1, ⟨by omega, by omega⟩, ?_⟩
      (try simp (disch := omega) only [u2_same, u2_ne]); (try simp (disch := omega) only [hV.l.d.n, hV.l.d.1.1, hV.l.d.1.2.2.1, hV.l.d.1.2.2.2.1, hV.l.t.e0])
      refine ⟨⟨Nat.zero_le _, Nat.zero_le _, Nat.le_of_ble_eq_true rfl⟩, trivial, ?_⟩
      refine K_at hG hx.1 ⟨by omega, by omega⟩ (fun r r0 r1 => ?_)
      have hT := hV.b.2.2.1 r.toNat (by omega)
      have hT0 : 0 ≤ tf z r.toNat 0 ∧ tf z r.toNat 0 ≤ 1 := hT.1
      refine af_I0 rfl rfl (by decide) ?_
      try dsimp only
      (try simp (disch := omega) only [u2_same, u2_ne]); (try simp (disch := omega) only [hV.l.d.n, hV.l.d.1.1, hV.l.d.1.2.2.1, hV.l.d.1.2.2.2.1, hV.l.t.e0])
      refine B_L_act_507 ?_
      try dsimp only
      (try simp (disch := omega) only [u2_same, u2_ne]); (try simp (disch := omega) only [hV.l.d.n, hV.l.d.1.1, hV.l.d.1.2.2.1, hV.l.d.1.2.2.2.1, hV.l.t.e0])
      refine ⟨⟨by omega, by omega, Nat.le_of_ble_eq_true rfl⟩, trivial, ?_⟩
      refine K_why hG (LH_app hS).1 (LH_app hS).2.1 (LH_app hS).2.2.2 hV.l.t hV.l.d hV.l.n hV.b hV.l.h ⟨by decide, by decide⟩ hV.l.m ⟨r0, r1⟩ (fun U1 J1 R1 L1 c1 t1 e1 => ?_)
      have hlS := ge_lt (LH_app (U := U) hS).2.2.2
      have hV1 := LV_any (M := 0) (LV_law hV (M := (SH (sT ++ U)).length) ⟨Nat.zero_le _, by omega⟩ e1)
      clear hV
      have hV := hV1
      clear hV1
      rw [← SH_app, List.append_assoc]
      clear e1
      try clear hlS
      revert hV
      generalize J1 = J
      generalize R1 = R
      generalize L1 = L
      generalize hUU : U ++ U1 = U
      clear hUU
      intro hV
      refine af_I (cc := 1) (tt := 64) rfl rfl (by decide) ?_
      try dsimp only
      (try simp (disch := omega) only [u2_same, u2_ne]); (try simp (disch := omega) only [hV.l.d.n, hV.l.d.1.1, hV.l.d.1.2.2.1, hV.l.d.1.2.2.2.1, hV.l.t.e0])
      refine B_L_act_520 ?_
      try dsimp only
      (try simp (disch := omega) only [u2_same, u2_ne]); (try simp (disch := omega) only [hV.l.d.n, hV.l.d.1.1, hV.l.d.1.2.2.1, hV.l.d.1.2.2.2.1, hV.l.t.e0])
      refine ⟨fun c520_3 => ?_, fun c520_3 => ?_⟩
      · refine B_L_act_532 ?_
        try dsimp only
        (try simp (disch := omega) only [u2_same, u2_ne]); (try simp (disch := omega) only [hV.l.d.n, hV.l.d.1.1, hV.l.d.1.2.2.1, hV.l.d.1.2.2.2.1, hV.l.t.e0])
        refine ⟨by first | exact Or.inl rfl | exact Or.inr rfl | trivial | exact Or.inl trivial | exact Or.inr trivial | omega, ?_⟩
        exact hQ J R L U _ _ z nv zs (LV_any hV) (by omega) (by omega) hn1
      · refine ⟨_, by first | exact (LH_app hS).2.1 | exact (LH_app hS).2.2.1 | exact (LH_app hS).2.2.2 | exact (LH_app hS).1, ⟨by omega, by omega⟩, ?_⟩
        (try simp (disch := omega) only [u2_same, u2_ne]); (try simp (disch := omega) only [hV.l.d.n, hV.l.d.1.1, hV.l.d.1.2.2.1, hV.l.d.1.2.2.2.1, hV.l.t.e0])
        refine ⟨fun c529_3 => ?_, fun c529_3 => ?_⟩
        · refine B_L_act_534 ?_
          try dsimp only
          (try simp (disch := omega) only [u2_same, u2_ne]); (try simp (disch := omega) only [hV.l.d.n, hV.l.d.1.1, hV.l.d.1.2.2.1, hV.l.d.1.2.2.2.1, hV.l.t.e0])
          refine ⟨by (refine ⟨?_, ?_⟩ <;> omega), ?_⟩
          refine ⟨_, by first | exact (LH_app hS).2.1 | exact (LH_app hS).2.2.1 | exact (LH_app hS).2.2.2 | exact (LH_app hS).1, ⟨by omega, by omega⟩, ?_⟩
          (try simp (disch := omega) only [u2_same, u2_ne]); (try simp (disch := omega) only [hV.l.d.n, hV.l.d.1.1, hV.l.d.1.2.2.1, hV.l.d.1.2.2.2.1, hV.l.t.e0])
          refine ⟨by (refine ⟨?_, ?_⟩ <;> omega), ?_⟩
          refine ⟨_, by first | exact (LH_app hS).2.1 | exact (LH_app hS).2.2.1 | exact (LH_app hS).2.2.2 | exact (LH_app hS).1, ⟨by omega, by omega⟩, ?_⟩
          (try simp (disch := omega) only [u2_same, u2_ne]); (try simp (disch := omega) only [hV.l.d.n, hV.l.d.1.1, hV.l.d.1.2.2.1, hV.l.d.1.2.2.2.1, hV.l.t.e0])
          refine ⟨⟨by omega, by omega, Nat.le_of_ble_eq_true rfl⟩, trivial, ?_⟩
          have hwy : whyN z r.toNat = 0 := by omega
          have hw0 := whyN_0 hwy
          have hge := hV.l.d.gen hT0
          have hob := ordT_b (z := z) (a := z (96 + tf z r.toNat 0).toNat) (k := r.toNat) (inL_C hge.2) hT
          rw [hge.1]
          refine K_time hG (LH_app hS).1 (LH_app hS).2.1 (LH_app hS).2.2.2 hV.l.t hV.l.d.n hV.l.n hV.b hV.l.h ⟨by decide, by decide⟩ (sm_in hge.2) ⟨r0, r1⟩ (fun U1 J1 R1 L1 c1 t1 e1 => ?_)
          rw [bg_sm hge.2]
          clear hge
          have hlS := ge_lt (LH_app (U := U) hS).2.2.2
          have hV1 := LV_any (M := 0) (LV_law hV (M := (SH (sT ++ U)).length) ⟨Nat.zero_le _, by omega⟩ e1)
          clear hV
          have hV := hV1
          clear hV1
          rw [← SH_app, List.append_assoc]
          clear e1
          try clear hlS
          revert hV
          generalize J1 = J
          generalize R1 = R
          generalize L1 = L
          generalize hUU : U ++ U1 = U
          clear hUU
          intro hV
          refine af_I (cc := 1) (tt := 64) rfl rfl (by decide) ?_
          try dsimp only
          (try simp (disch := omega) only [u2_same, u2_ne]); (try simp (disch := omega) only [hV.l.d.n, hV.l.d.1.1, hV.l.d.1.2.2.1, hV.l.d.1.2.2.2.1, hV.l.t.e0])
          refine B_L_act_559 ?_
          try dsimp only
          (try simp (disch := omega) only [u2_same, u2_ne]); (try simp (disch := omega) only [hV.l.d.n, hV.l.d.1.1, hV.l.d.1.2.2.1, hV.l.d.1.2.2.2.1, hV.l.t.e0])
          refine ⟨⟨rfl, rfl⟩, ?_⟩
          refine ⟨_, by first | exact (LH_app hS).2.1 | exact (LH_app hS).2.2.1 | exact (LH_app hS).2.2.2 | exact (LH_app hS).1, ⟨by omega, by omega⟩, ?_⟩
          (try simp (disch := omega) only [u2_same, u2_ne]); (try simp (disch := omega) only [hV.l.d.n, hV.l.d.1.1, hV.l.d.1.2.2.1, hV.l.d.1.2.2.2.1, hV.l.t.e0])
          refine ⟨⟨rfl, rfl, rfl⟩, ?_⟩
          refine ⟨by (refine ⟨?_, ?_⟩ <;> omega), ?_⟩
          refine ⟨_, by first | exact (LH_app hS).2.1 | exact (LH_app hS).2.2.1 | exact (LH_app hS).2.2.2 | exact (LH_app hS).1, ⟨by omega, by omega⟩, ?_⟩
          (try simp (disch := omega) only [u2_same, u2_ne]); (try simp (disch := omega) only [hV.l.d.n, hV.l.d.1.1, hV.l.d.1.2.2.1, hV.l.d.1.2.2.2.1, hV.l.t.e0])
          refine ⟨by (refine ⟨?_, ?_⟩ <;> omega), ?_⟩
          refine ⟨⟨rfl, rfl⟩, ?_⟩
          refine ⟨_, by first | exact (LH_app hS).2.1 | exact (LH_app hS).2.2.1 | exact (LH_app hS).2.2.2 | exact (LH_app hS).1, ⟨by omega, by omega⟩, ?_⟩
          (try simp (disch := omega) only [u2_same, u2_ne]); (try simp (disch := omega) only [hV.l.d.n, hV.l.d.1.1, hV.l.d.1.2.2.1, hV.l.d.1.2.2.2.1, hV.l.t.e0])
          refine ⟨⟨rfl, rfl, rfl⟩, ?_⟩
          refine ⟨by (refine ⟨?_, ?_⟩ <;> omega), ?_⟩
          refine ⟨_, by first | exact (LH_app hS).2.1 | exact (LH_app hS).2.2.1 | exact (LH_app hS).2.2.2 | exact (LH_app hS).1, ⟨by omega, by omega⟩, ?_⟩
          (try simp (disch := omega) only [u2_same, u2_ne]); (try simp (disch := omega) only [hV.l.d.n, hV.l.d.1.1, hV.l.d.1.2.2.1, hV.l.d.1.2.2.2.1, hV.l.t.e0])
          refine ⟨_, by first | exact (LH_app hS).2.1 | exact (LH_app hS).2.2.1 | exact (LH_app hS).2.2.2 | exact (LH_app hS).1, ⟨by omega, by omega⟩, ?_⟩
          (try simp (disch := omega) only [u2_same, u2_ne]); (try simp (disch := omega) only [hV.l.d.n, hV.l.d.1.1, hV.l.d.1.2.2.1, hV.l.d.1.2.2.2.1, hV.l.t.e0])
          refine ⟨by (refine ⟨?_, ?_⟩ <;> omega), ?_⟩
          refine ⟨_, by first | exact (LH_app hS).2.1 | exact (LH_app hS).2.2.1 | exact (LH_app hS).2.2.2 | exact (LH_app hS).1, ⟨by omega, by omega⟩, ?_⟩
          (try simp (disch := omega) only [u2_same, u2_ne]); (try simp (disch := omega) only [hV.l.d.n, hV.l.d.1.1, hV.l.d.1.2.2.1, hV.l.d.1.2.2.2.1, hV.l.t.e0])
          refine ⟨by (refine ⟨?_, ?_⟩ <;> omega), ?_⟩
          refine ⟨⟨Nat.zero_le _, Nat.zero_le _, Nat.le_of_ble_eq_true rfl⟩, trivial, ?_⟩
          have hsh := sh_s0 hx (k := 5) (by decide)
          refine K_at hG hsh.1 (by decide) (fun r5 r50 r51 => ?_)
          refine af_I0 rfl rfl (by decide) ?_
          try dsimp only
          (try simp (disch := omega) only [u2_same, u2_ne]); (try simp (disch := omega) only [hV.l.d.n, hV.l.d.1.1, hV.l.d.1.2.2.1, hV.l.d.1.2.2.2.1, hV.l.t.e0])
          refine B_L_act_611 ?_
          try dsimp only
          (try simp (disch := omega) only [u2_same, u2_ne]); (try simp (disch := omega) only [hV.l.d.n, hV.l.d.1.1, hV.l.d.1.2.2.1, hV.l.d.1.2.2.2.1, hV.l.t.e0])
          refine ⟨fun c611_6 => ?_, fun c611_6 => ?_⟩
          · refine B_L_act_619 ?_
            try dsimp only
            (try simp (disch := omega) only [u2_same, u2_ne]); (try simp (disch := omega) only [hV.l.d.n, hV.l.d.1.1, hV.l.d.1.2.2.1, hV.l.d.1.2.2.2.1, hV.l.t.e0])
            refine B_L_act_621 ?_
            try dsimp only
            (try simp (disch := omega) only [u2_same, u2_ne]); (try simp (disch := omega) only [hV.l.d.n, hV.l.d.1.1, hV.l.d.1.2.2.1, hV.l.d.1.2.2.2.1, hV.l.t.e0])
            refine ⟨⟨Nat.zero_le _, Nat.zero_le _, Nat.le_of_ble_eq_true rfl⟩, trivial, ?_⟩
            refine K_at hG hy.1 (by decide) (fun w w0 w1 => ?_)
            have hw6 : w < 64 := by omega
            have hgb : 0 ≤ bg w ∧ bg w ≤ 95 := by have := bg_C (c := w) ⟨w0, hw6⟩; unfold isC at this; omega
            refine af_I0 rfl rfl (by decide) ?_
            try dsimp only
            (try simp (disch := omega) only [u2_same, u2_ne]); (try simp (disch := omega) only [hV.l.d.n, hV.l.d.1.1, hV.l.d.1.2.2.1, hV.l.d.1.2.2.2.1, hV.l.t.e0])
            refine B_L_act_624 ?_
            try dsimp only
            (try simp (disch := omega) only [u2_same, u2_ne]); (try simp (disch := omega) only [hV.l.d.n, hV.l.d.1.1, hV.l.d.1.2.2.1, hV.l.d.1.2.2.2.1, hV.l.t.e0])
            refine ⟨_, by first | exact (LH_app hS).2.1 | exact (LH_app hS).2.2.1 | exact (LH_app hS).2.2.2 | exact (LH_app hS).1, ⟨by omega, by omega⟩, ?_⟩
            (try simp (disch := omega) only [u2_same, u2_ne]); (try simp (disch := omega) only [hV.l.d.n, hV.l.d.1.1, hV.l.d.1.2.2.1, hV.l.d.1.2.2.2.1, hV.l.t.e0])
            refine ⟨by (refine ⟨?_, ?_⟩ <;> omega), ?_⟩
            refine ⟨_, by first | exact (LH_app hS).2.1 | exact (LH_app hS).2.2.1 | exact (LH_app hS).2.2.2 | exact (LH_app hS).1, ⟨by omega, by omega⟩, ?_⟩
            (try simp (disch := omega) only [u2_same, u2_ne]); (try simp (disch := omega) only [hV.l.d.n, hV.l.d.1.1, hV.l.d.1.2.2.1, hV.l.d.1.2.2.2.1, hV.l.t.e0])
            refine ⟨by (refine ⟨?_, ?_⟩ <;> omega), ?_⟩
            refine ⟨_, by first | exact (LH_app hS).2.1 | exact (LH_app hS).2.2.1 | exact (LH_app hS).2.2.2 | exact (LH_app hS).1, ⟨by omega, by omega⟩, ?_⟩
            (try simp (disch := omega) only [u2_same, u2_ne]); (try simp (disch := omega) only [hV.l.d.n, hV.l.d.1.1, hV.l.d.1.2.2.1, hV.l.d.1.2.2.2.1, hV.l.t.e0])
            refine ⟨by (refine ⟨?_, ?_⟩ <;> omega), ?_⟩
            refine ⟨_, by first | exact (LH_app hS).2.1 | exact (LH_app hS).2.2.1 | exact (LH_app hS).2.2.2 | exact (LH_app hS).1, ⟨by omega, by omega⟩, ?_⟩
            (try simp (disch := omega) only [u2_same, u2_ne]); (try simp (disch := omega) only [hV.l.d.n, hV.l.d.1.1, hV.l.d.1.2.2.1, hV.l.d.1.2.2.2.1, hV.l.t.e0])
            refine ⟨⟨Nat.zero_le _, Nat.zero_le _, Nat.le_of_ble_eq_true rfl⟩, trivial, ?_⟩
            refine K_big hG ⟨w0, hw6⟩ ?_
            refine af_I0 rfl rfl (by decide) ?_
            try dsimp only
            (try simp (disch := omega) only [u2_same, u2_ne]); (try simp (disch := omega) only [hV.l.d.n, hV.l.d.1.1, hV.l.d.1.2.2.1, hV.l.d.1.2.2.2.1, hV.l.t.e0])
            refine B_L_act_652 ?_
            try dsimp only
            (try simp (disch := omega) only [u2_same, u2_ne]); (try simp (disch := omega) only [hV.l.d.n, hV.l.d.1.1, hV.l.d.1.2.2.1, hV.l.d.1.2.2.2.1, hV.l.t.e0])
            refine ⟨⟨by omega, by omega, Nat.le_of_ble_eq_true rfl⟩, so0, ?_⟩
            refine D_order hG hV.k (CS_off hV.c hV.f (fun c hc => by repeat rw [u2_off _ _ _ (by omega)])) hV.f (fun q => absurd ⟨⟨r0, r1⟩, hgb⟩ q) (fun q => absurd hwy q.2) (fun _ => QWx (fun J1 R1 c1 t1 j1 hRK1 hC1 => ?_))
            have hZ5 : LZ J1 362 363 364 (giveZ z r (bg w)) := by
              refine LZ_gi (J := J) hV.l ⟨hm0, by omega⟩ ⟨w0, hw6⟩ ?_ ?_ ?_ ?_ (fun i i2 i3 => ?_) (fun i hi => ?_) ?_ ?_ ?_ ?_
              · rw [j1 361 (by decide)]; repeat rw [u2_off _ _ _ (by decide)]
              · rw [j1 362 (by decide)]; repeat rw [u2_off _ _ _ (by decide)]
              · rw [j1 364 (by decide)]; simp (disch := omega) only [u2_same, u2_ne]
              · rw [j1 364 (by decide)]; simp (disch := omega) only [u2_same, u2_ne]
              · rw [j1 364 (by decide)]; simp (disch := omega) only [u2_ne]
              · rw [j1 363 (by decide)]; simp (disch := omega) only [u2_ne]
              · rw [j1 363 (by decide), show 4 * (z 195).toNat = (4 * z 195).toNat by omega]; simp (disch := omega) only [u2_same, u2_ne]
              · rw [j1 363 (by decide), show 4 * (z 195).toNat + 1 = (4 * z 195 + 1).toNat by omega]; simp (disch := omega) only [u2_same, u2_ne]
              · rw [j1 363 (by decide), show 4 * (z 195).toNat + 2 = (4 * z 195 + 2).toNat by omega]; simp (disch := omega) only [u2_same, u2_ne]
              · rw [j1 363 (by decide), show 4 * (z 195).toNat + 3 = (4 * z 195 + 3).toNat by omega]; simp (disch := omega) only [u2_same, u2_ne]
            have g1 := giveZ_at (z := z) r (bg w) ⟨hm0, by omega⟩
            have g316 := g1.1 316 (by omega)
            have g317 := g1.2.2.1
            refine af_I (cc := 3) (tt := 18) rfl rfl (by decide) ?_
            try dsimp only
            (try simp (disch := omega) only [u2_same, u2_ne]); (try simp (disch := omega) only [hV.l.d.n, hV.l.d.1.1, hV.l.d.1.2.2.1, hV.l.d.1.2.2.2.1, hV.l.t.e0])
            refine B_L_act_655 ?_
            try dsimp only
            (try simp (disch := omega) only [u2_same, u2_ne]); (try simp (disch := omega) only [hV.l.d.n, hV.l.d.1.1, hV.l.d.1.2.2.1, hV.l.d.1.2.2.2.1, hV.l.t.e0])
            refine ⟨fun c657_11 => ?_, fun c657_11 => ?_⟩
            · refine B_L_act_664 ?_
              try dsimp only
              (try simp (disch := omega) only [u2_same, u2_ne]); (try simp (disch := omega) only [hV.l.d.n, hV.l.d.1.1, hV.l.d.1.2.2.1, hV.l.d.1.2.2.2.1, hV.l.t.e0])
              refine B_L_act_665 ?_
              try dsimp only
              (try simp (disch := omega) only [u2_same, u2_ne]); (try simp (disch := omega) only [hV.l.d.n, hV.l.d.1.1, hV.l.d.1.2.2.1, hV.l.d.1.2.2.2.1, hV.l.t.e0])
              refine ⟨by first | exact Or.inl rfl | exact Or.inr rfl | trivial | exact Or.inl trivial | exact Or.inr trivial | omega, ?_⟩
              first
                | (exfalso; omega)
                | exact absurd rfl (by assumption)
                | exact hQ J1 R1 L U _ _ (giveZ z r (bg w)) (svN nv) _ (LV_of hRK1 hC1 (giveZ_WF hV.f.1 hV.f.2.1 ⟨r0, r1⟩ (bg_C ⟨w0, hw6⟩) hwy (by omega)) (by omega) (by omega) hZ5) (by omega) (by omega) (svN_1 hn1)
            · refine B_L_act_665 ?_
              try dsimp only
              (try simp (disch := omega) only [u2_same, u2_ne]); (try simp (disch := omega) only [hV.l.d.n, hV.l.d.1.1, hV.l.d.1.2.2.1, hV.l.d.1.2.2.2.1, hV.l.t.e0])
              refine ⟨by first | exact Or.inl rfl | exact Or.inr rfl | trivial | exact Or.inl trivial | exact Or.inr trivial | omega, ?_⟩
              first
                | (exfalso; omega)
                | exact absurd rfl (by assumption)
                | exact hQ J1 R1 L U _ _ (giveZ z r (bg w)) (svN nv) _ (LV_of hRK1 hC1 (giveZ_WF hV.f.1 hV.f.2.1 ⟨r0, r1⟩ (bg_C ⟨w0, hw6⟩) hwy (by omega)) (by omega) (by omega) hZ5) (by omega) (by omega) (svN_1 hn1)
          · refine B_L_act_621 ?_
            try dsimp only
            (try simp (disch := omega) only [u2_same, u2_ne]); (try simp (disch := omega) only [hV.l.d.n, hV.l.d.1.1, hV.l.d.1.2.2.1, hV.l.d.1.2.2.2.1, hV.l.t.e0])
            refine ⟨⟨Nat.zero_le _, Nat.zero_le _, Nat.le_of_ble_eq_true rfl⟩, trivial, ?_⟩
            refine K_at hG hy.1 (by decide) (fun w w0 w1 => ?_)
            have hw6 : w < 64 := by omega
            have hgb : 0 ≤ bg w ∧ bg w ≤ 95 := by have := bg_C (c := w) ⟨w0, hw6⟩; unfold isC at this; omega
            refine af_I0 rfl rfl (by decide) ?_
            try dsimp only
            (try simp (disch := omega) only [u2_same, u2_ne]); (try simp (disch := omega) only [hV.l.d.n, hV.l.d.1.1, hV.l.d.1.2.2.1, hV.l.d.1.2.2.2.1, hV.l.t.e0])
            refine B_L_act_624 ?_
            try dsimp only
            (try simp (disch := omega) only [u2_same, u2_ne]); (try simp (disch := omega) only [hV.l.d.n, hV.l.d.1.1, hV.l.d.1.2.2.1, hV.l.d.1.2.2.2.1, hV.l.t.e0])
            refine ⟨_, by first | exact (LH_app hS).2.1 | exact (LH_app hS).2.2.1 | exact (LH_app hS).2.2.2 | exact (LH_app hS).1, ⟨by omega, by omega⟩, ?_⟩
            (try simp (disch := omega) only [u2_same, u2_ne]); (try simp (disch := omega) only [hV.l.d.n, hV.l.d.1.1, hV.l.d.1.2.2.1, hV.l.d.1.2.2.2.1, hV.l.t.e0])
            refine ⟨by (refine ⟨?_, ?_⟩ <;> omega), ?_⟩
            refine ⟨_, by first | exact (LH_app hS).2.1 | exact (LH_app hS).2.2.1 | exact (LH_app hS).2.2.2 | exact (LH_app hS).1, ⟨by omega, by omega⟩, ?_⟩
            (try simp (disch := omega) only [u2_same, u2_ne]); (try simp (disch := omega) only [hV.l.d.n, hV.l.d.1.1, hV.l.d.1.2.2.1, hV.l.d.1.2.2.2.1, hV.l.t.e0])
            refine ⟨by (refine ⟨?_, ?_⟩ <;> omega), ?_⟩
            refine ⟨_, by first | exact (LH_app hS).2.1 | exact (LH_app hS).2.2.1 | exact (LH_app hS).2.2.2 | exact (LH_app hS).1, ⟨by omega, by omega⟩, ?_⟩
            (try simp (disch := omega) only [u2_same, u2_ne]); (try simp (disch := omega) only [hV.l.d.n, hV.l.d.1.1, hV.l.d.1.2.2.1, hV.l.d.1.2.2.2.1, hV.l.t.e0])
            refine ⟨by (refine ⟨?_, ?_⟩ <;> omega), ?_⟩
            refine ⟨_, by first | exact (LH_app hS).2.1 | exact (LH_app hS).2.2.1 | exact (LH_app hS).2.2.2 | exact (LH_app hS).1, ⟨by omega, by omega⟩, ?_⟩
            (try simp (disch := omega) only [u2_same, u2_ne]); (try simp (disch := omega) only [hV.l.d.n, hV.l.d.1.1, hV.l.d.1.2.2.1, hV.l.d.1.2.2.2.1, hV.l.t.e0])
            refine ⟨⟨Nat.zero_le _, Nat.zero_le _, Nat.le_of_ble_eq_true rfl⟩, trivial, ?_⟩
            refine K_big hG ⟨w0, hw6⟩ ?_
            refine af_I0 rfl rfl (by decide) ?_
            try dsimp only
            (try simp (disch := omega) only [u2_same, u2_ne]); (try simp (disch := omega) only [hV.l.d.n, hV.l.d.1.1, hV.l.d.1.2.2.1, hV.l.d.1.2.2.2.1, hV.l.t.e0])
            refine B_L_act_652 ?_
            try dsimp only
            (try simp (disch := omega) only [u2_same, u2_ne]); (try simp (disch := omega) only [hV.l.d.n, hV.l.d.1.1, hV.l.d.1.2.2.1, hV.l.d.1.2.2.2.1, hV.l.t.e0])
            refine ⟨⟨by omega, by omega, Nat.le_of_ble_eq_true rfl⟩, so0, ?_⟩
            refine D_order hG hV.k (CS_off hV.c hV.f (fun c hc => by repeat rw [u2_off _ _ _ (by omega)])) hV.f (fun q => absurd ⟨⟨r0, r1⟩, hgb⟩ q) (fun q => absurd hwy q.2) (fun _ => QWx (fun J1 R1 c1 t1 j1 hRK1 hC1 => ?_))
            have hZ5 : LZ J1 362 363 364 (giveZ z r (bg w)) := by
              refine LZ_gi (J := J) hV.l ⟨hm0, by omega⟩ ⟨w0, hw6⟩ ?_ ?_ ?_ ?_ (fun i i2 i3 => ?_) (fun i hi => ?_) ?_ ?_ ?_ ?_
              · rw [j1 361 (by decide)]; repeat rw [u2_off _ _ _ (by decide)]
              · rw [j1 362 (by decide)]; repeat rw [u2_off _ _ _ (by decide)]
              · rw [j1 364 (by decide)]; simp (disch := omega) only [u2_same, u2_ne]
              · rw [j1 364 (by decide)]; simp (disch := omega) only [u2_same, u2_ne]
              · rw [j1 364 (by decide)]; simp (disch := omega) only [u2_ne]
              · rw [j1 363 (by decide)]; simp (disch := omega) only [u2_ne]
              · rw [j1 363 (by decide), show 4 * (z 195).toNat = (4 * z 195).toNat by omega]; simp (disch := omega) only [u2_same, u2_ne]
              · rw [j1 363 (by decide), show 4 * (z 195).toNat + 1 = (4 * z 195 + 1).toNat by omega]; simp (disch := omega) only [u2_same, u2_ne]
              · rw [j1 363 (by decide), show 4 * (z 195).toNat + 2 = (4 * z 195 + 2).toNat by omega]; simp (disch := omega) only [u2_same, u2_ne]
              · rw [j1 363 (by decide), show 4 * (z 195).toNat + 3 = (4 * z 195 + 3).toNat by omega]; simp (disch := omega) only [u2_same, u2_ne]
            have g1 := giveZ_at (z := z) r (bg w) ⟨hm0, by omega⟩
            have g316 := g1.1 316 (by omega)
            have g317 := g1.2.2.1
            refine af_I (cc := 3) (tt := 18) rfl rfl (by decide) ?_
            try dsimp only
            (try simp (disch := omega) only [u2_same, u2_ne]); (try simp (disch := omega) only [hV.l.d.n, hV.l.d.1.1, hV.l.d.1.2.2.1, hV.l.d.1.2.2.2.1, hV.l.t.e0])
            refine B_L_act_655 ?_
            try dsimp only
            (try simp (disch := omega) only [u2_same, u2_ne]); (try simp (disch := omega) only [hV.l.d.n, hV.l.d.1.1, hV.l.d.1.2.2.1, hV.l.d.1.2.2.2.1, hV.l.t.e0])
            refine ⟨fun c657_10 => ?_, fun c657_10 => ?_⟩
            · refine B_L_act_664 ?_
              try dsimp only
              (try simp (disch := omega) only [u2_same, u2_ne]); (try simp (disch := omega) only [hV.l.d.n, hV.l.d.1.1, hV.l.d.1.2.2.1, hV.l.d.1.2.2.2.1, hV.l.t.e0])
              refine B_L_act_665 ?_
              try dsimp only
              (try simp (disch := omega) only [u2_same, u2_ne]); (try simp (disch := omega) only [hV.l.d.n, hV.l.d.1.1, hV.l.d.1.2.2.1, hV.l.d.1.2.2.2.1, hV.l.t.e0])
              refine ⟨by first | exact Or.inl rfl | exact Or.inr rfl | trivial | exact Or.inl trivial | exact Or.inr trivial | omega, ?_⟩
              first
                | (exfalso; omega)
                | exact absurd rfl (by assumption)
                | exact hQ J1 R1 L U _ _ (giveZ z r (bg w)) (svN nv) _ (LV_of hRK1 hC1 (giveZ_WF hV.f.1 hV.f.2.1 ⟨r0, r1⟩ (bg_C ⟨w0, hw6⟩) hwy (by omega)) (by omega) (by omega) hZ5) (by omega) (by omega) (svN_1 hn1)
            · refine B_L_act_665 ?_
              try dsimp only
              (try simp (disch := omega) only [u2_same, u2_ne]); (try simp (disch := omega) only [hV.l.d.n, hV.l.d.1.1, hV.l.d.1.2.2.1, hV.l.d.1.2.2.2.1, hV.l.t.e0])
              refine ⟨by first | exact Or.inl rfl | exact Or.inr rfl | trivial | exact Or.inl trivial | exact Or.inr trivial | omega, ?_⟩
              first
                | (exfalso; omega)
                | exact absurd rfl (by assumption)
                | exact hQ J1 R1 L U _ _ (giveZ z r (bg w)) (svN nv) _ (LV_of hRK1 hC1 (giveZ_WF hV.f.1 hV.f.2.1 ⟨r0, r1⟩ (bg_C ⟨w0, hw6⟩) hwy (by omega)) (by omega) (by omega) hZ5) (by omega) (by omega) (svN_1 hn1)
        · refine B_L_act_532 ?_
          try dsimp only
          (try simp (disch := omega) only [u2_same, u2_ne]); (try simp (disch := omega) only [hV.l.d.n, hV.l.d.1.1, hV.l.d.1.2.2.1, hV.l.d.1.2.2.2.1, hV.l.t.e0])
          refine ⟨by first | exact Or.inl rfl | exact Or.inr rfl | trivial | exact Or.inl trivial | exact Or.inr trivial | omega, ?_⟩
          exact hQ J R L U _ _ z nv zs (LV_any hV) (by omega) (by omega) hn1
  · refine ⟨by first | exact Or.inl rfl | exact Or.inr rfl | trivial | exact Or.inl trivial | exact Or.inr trivial | omega, ?_⟩
    exact hQ J R L U _ _ z nv zs (LV_any hV) (by omega) (by omega) hn1
theorem KA_add2 {G : amG} {Q : amR → amH → Prop} (hG : amG0 G) {sT : List (Nat × Nat)} (hS : LH (SH sT) 362 363 364) {z : Row} {nv : Int} {zs : Nat → Row} {x y m : Int} (hx : 0 ≤ x ∧ x ≤ 2147483647) (hy : 0 ≤ y ∧ y ≤ 2147483647) (hm : 0 ≤ m ∧ m ≤ 14) (hn1 : 1 ≤ nv) (h6 : z 316 ≤ 200) (h7 : z 317 ≤ 200) (hQ : ∀ (J : Nat → Nat → Int) (R : Nat → Nat → Option Nat) (L : Nat → Nat → Int64) (U : List (Nat × Nat)) (c t : Nat) (z' : Row) (nv' : Int) (zs' : Nat → Row), LV 0 J J R z' nv' zs' → z' 316 ≤ z 316 + 5 → z' 317 ≤ z 317 + 1 → 1 ≤ nv' → Q (Sum.inl (some (aI 1))) (J, R, L, SH (sT ++ U), 0, c, t)) {J : Nat → Nat → Int} {R : Nat → Nat → Option Nat} {L : Nat → Nat → Int64} {U : List (Nat × Nat)} {c t : Nat} (hV : LV 0 J J R z nv zs) (hc : 3 ≤ c) (ht : 18 ≤ t) {K : Nat → Nat → Int} {w i : Int} (hw : is8 w) (hn0 : 0 ≤ z 98) (h5 : z 98 ≤ 5) (hwho : tAt z (bg w) = -1) (hK1 : ∀ a : Nat, a ≠ 362 → K a = J a) (hz8 : ∀ f : Nat, f < 8 → K 362 (8 * (z 98).toNat + f) = 0) (hlt : ∀ i : Nat, i < 8 * (z 98).toNat → K 362 i = J 362 i) : X G mL_act Q 379 [some (aR (some 0)), some (aI m), some (aI x), some (aI y), some (aR (some 361)), some (aR (some 362)), some (aR (some 363)), some (aR (some 364)), some (aI w), some (aI (8 * z 98)), some (aI i), none, none] [] (K, R, L, SH (sT ++ U), 0, c, t) := by
  have hk1 : K 364 1 = z 98 := by rw [hK1 364 (by decide)]; exact hV.l.d.n
  have hgb : 0 ≤ bg w ∧ bg w ≤ 95 := by have := bg_C hw; unfold isC at this; omega
  have hcb := bg_C hw
  refine B_L_act_379 ?_
  try dsimp only
  (try simp (disch := omega) only [u2_same, u2_ne]); (try simp only [hk1])
  refine ⟨⟨Nat.zero_le _, Nat.zero_le _, Nat.le_of_ble_eq_true rfl⟩, trivial, ?_⟩
  have hsh3 := sh_s0 hx (k := 3) (by decide)
  refine K_at hG hsh3.1 (by decide) (fun s s0 s1 => ?_)
  refine af_I0 rfl rfl (by decide) ?_
  try dsimp only
  (try simp (disch := omega) only [u2_same, u2_ne]); (try simp only [hk1])
  refine B_L_act_390 ?_
  try dsimp only
  (try simp (disch := omega) only [u2_same, u2_ne]); (try simp only [hk1])
  refine ⟨_, by first | exact (LH_app hS).2.1 | exact (LH_app hS).2.2.1 | exact (LH_app hS).2.2.2 | exact (LH_app hS).1, ⟨by omega, by omega⟩, ?_⟩
  (try simp (disch := omega) only [u2_same, u2_ne]); (try simp only [hk1])
  refine ⟨by (refine ⟨?_, ?_⟩ <;> omega), ?_⟩
  refine ⟨_, by first | exact (LH_app hS).2.1 | exact (LH_app hS).2.2.1 | exact (LH_app hS).2.2.2 | exact (LH_app hS).1, ⟨by omega, by omega⟩, ?_⟩
  (try simp (disch := omega) only [u2_same, u2_ne]); (try simp only [hk1])
  refine ⟨by (refine ⟨?_, ?_⟩ <;> omega), ?_⟩
  refine ⟨⟨Nat.zero_le _, Nat.zero_le _, Nat.le_of_ble_eq_true rfl⟩, trivial, ?_⟩
  have hsh5 := sh_s0 hx (k := 5) (by decide)
  refine K_at hG hsh5.1 (by decide) (fun v v0 v1 => ?_)
  refine af_I0 rfl rfl (by decide) ?_
  try dsimp only
  (try simp (disch := omega) only [u2_same, u2_ne]); (try simp only [hk1])
  refine B_L_act_415 ?_
  try dsimp only
  (try simp (disch := omega) only [u2_same, u2_ne]); (try simp only [hk1])
  refine ⟨by (refine ⟨?_, ?_⟩ <;> omega), ?_⟩
  refine ⟨_, by first | exact (LH_app hS).2.1 | exact (LH_app hS).2.2.1 | exact (LH_app hS).2.2.2 | exact (LH_app hS).1, ⟨by omega, by omega⟩, ?_⟩
  (try simp (disch := omega) only [u2_same, u2_ne]); (try simp only [hk1])
  refine ⟨by (refine ⟨?_, ?_⟩ <;> omega), ?_⟩
  refine ⟨_, by first | exact (LH_app hS).2.1 | exact (LH_app hS).2.2.1 | exact (LH_app hS).2.2.2 | exact (LH_app hS).1, ⟨by omega, by omega⟩, ?_⟩
  (try simp (disch := omega) only [u2_same, u2_ne]); (try simp only [hk1])
  refine ⟨by (refine ⟨?_, ?_⟩ <;> omega), ?_⟩
  refine ⟨by (refine ⟨?_, ?_⟩ <;> omega), ?_⟩
  refine ⟨_, by first | exact (LH_app hS).2.1 | exact (LH_app hS).2.2.1 | exact (LH_app hS).2.2.2 | exact (LH_app hS).1, ⟨by omega, by omega⟩, ?_⟩
  (try simp (disch := omega) only [u2_same, u2_ne]); (try simp only [hk1])
  refine ⟨_, by first | exact (LH_app hS).2.1 | exact (LH_app hS).2.2.1 | exact (LH_app hS).2.2.2 | exact (LH_app hS).1, ⟨by omega, by omega⟩, ?_⟩
  (try simp (disch := omega) only [u2_same, u2_ne]); (try simp only [hk1])
  refine ⟨⟨rfl, rfl⟩, ?_⟩
  refine ⟨_, by first | exact (LH_app hS).2.1 | exact (LH_app hS).2.2.1 | exact (LH_app hS).2.2.2 | exact (LH_app hS).1, ⟨by omega, by omega⟩, ?_⟩
  (try simp (disch := omega) only [u2_same, u2_ne]); (try simp only [hk1])
  refine ⟨by (refine ⟨?_, ?_⟩ <;> omega), ?_⟩
  refine ⟨_, by first | exact (LH_app hS).2.1 | exact (LH_app hS).2.2.1 | exact (LH_app hS).2.2.2 | exact (LH_app hS).1, ⟨by omega, by omega⟩, ?_⟩
  (try simp (disch := omega) only [u2_same, u2_ne]); (try simp only [hk1])
  refine ⟨_, by first | exact (LH_app hS).2.1 | exact (LH_app hS).2.2.1 | exact (LH_app hS).2.2.2 | exact (LH_app hS).1, ⟨by omega, by omega⟩, ?_⟩
  (try simp (disch := omega) only [u2_same, u2_ne]); (try simp only [hk1])
  refine ⟨⟨Nat.zero_le _, Nat.zero_le _, Nat.le_of_ble_eq_true rfl⟩, trivial, ?_⟩
  refine K_big hG hw ?_
  refine af_I0 rfl rfl (by decide) ?_
  try dsimp only
  (try simp (disch := omega) only [u2_same, u2_ne]); (try simp only [hk1])
  refine B_L_act_459 ?_
  try dsimp only
  (try simp (disch := omega) only [u2_same, u2_ne]); (try simp only [hk1])
  refine ⟨by (refine ⟨?_, ?_⟩ <;> omega), ?_⟩
  refine ⟨_, by first | exact (LH_app hS).2.1 | exact (LH_app hS).2.2.1 | exact (LH_app hS).2.2.2 | exact (LH_app hS).1, ⟨by omega, by omega⟩, ?_⟩
  (try simp (disch := omega) only [u2_same, u2_ne]); (try simp only [hk1])
  refine ⟨⟨by omega, by omega, Nat.le_of_ble_eq_true rfl⟩, so0, ?_⟩
  refine D_addTroop hG hV.k (CS_off hV.c hV.f (fun c hc => by (repeat rw [u2_off _ _ _ (by omega)]); exact hK1 _ (by omega))) hV.f (fun q => absurd ⟨⟨s0, by omega⟩, hgb⟩ q) (fun q => absurd ⟨by omega, by omega⟩ q.2) (fun q => absurd q.2.2 (fun qq => qq.elim (fun q1 => by omega) (fun q2 => q2 hwho))) (fun _ => QWx (fun J1 R1 c1 t1 j1 hRK1 hC1 => ?_))
  have hZ5 : LZ J1 362 363 364 (adZ z (z 98).toNat s (bg w) (1 + v)) := by
    refine LZ_ad (J := J) hn0 hV.l h5 hw ?_ ?_ ?_ (fun i i1 => ?_) (fun i hi => ?_) ?_ ?_ ?_ ?_ ?_ ?_ ?_ ?_
    · rw [j1 361 (by decide)]; (repeat rw [u2_off _ _ _ (by decide)]); exact hK1 _ (by decide)
    · rw [j1 363 (by decide)]; (repeat rw [u2_off _ _ _ (by decide)]); exact hK1 _ (by decide)
    · rw [j1 364 (by decide)]; simp (disch := omega) only [u2_same, u2_ne]
    · rw [j1 364 (by decide)]; simp (disch := omega) only [u2_ne]; rw [hK1 364 (by decide)]
    · rw [j1 362 (by decide)]; simp (disch := omega) only [u2_ne]; exact hlt i hi
    · rw [j1 362 (by decide), show 8 * (z 98).toNat = (8 * z 98).toNat by omega]; simp (disch := omega) only [u2_same, u2_ne]
    · rw [j1 362 (by decide), show 8 * (z 98).toNat + 1 = (8 * z 98 + 1).toNat by omega]; simp (disch := omega) only [u2_same, u2_ne]
    · rw [j1 362 (by decide), show 8 * (z 98).toNat + 2 = (8 * z 98 + 2).toNat by omega]; simp (disch := omega) only [u2_same, u2_ne]
    · rw [j1 362 (by decide), show 8 * (z 98).toNat + 3 = (8 * z 98 + 3).toNat by omega]; simp (disch := omega) only [u2_same, u2_ne]
    · rw [j1 362 (by decide)]; simp (disch := omega) only [u2_ne]; exact hz8 4 (by decide)
    · rw [j1 362 (by decide), show 8 * (z 98).toNat + 5 = (8 * z 98 + 5).toNat by omega]; simp (disch := omega) only [u2_same, u2_ne]
    · rw [j1 362 (by decide)]; simp (disch := omega) only [u2_ne]; exact hz8 6 (by decide)
    · rw [j1 362 (by decide)]; simp (disch := omega) only [u2_ne]; exact hz8 7 (by decide)
  have g316 : adZ z (z 98).toNat s (bg w) (1 + v) 316 = z 316 := adZ_off (by omega) (by decide)
  have g317 : adZ z (z 98).toNat s (bg w) (1 + v) 317 = z 317 := adZ_off (by omega) (by decide)
  have gd : J1 364 1 = z 98 + 1 := by rw [j1 364 (by decide)]; simp (disch := omega) only [u2_same, u2_ne]
  refine af_I (cc := 3) (tt := 18) rfl rfl (by decide) ?_
  try dsimp only
  (try simp (disch := omega) only [u2_same, u2_ne]); (try simp only [hk1])
  refine B_L_act_469 ?_
  try dsimp only
  (try simp (disch := omega) only [u2_same, u2_ne]); (try simp only [hk1])
  simp only [gd]
  refine ⟨_, by first | exact (LH_app hS).2.1 | exact (LH_app hS).2.2.1 | exact (LH_app hS).2.2.2 | exact (LH_app hS).1, ⟨by omega, by omega⟩, ?_⟩
  (try simp (disch := omega) only [u2_same, u2_ne]); (try simp only [hk1])
  refine ⟨by (refine ⟨?_, ?_⟩ <;> omega), ?_⟩
  refine ⟨fun c475_4 => ?_, fun c475_4 => ?_⟩
  · refine B_L_act_482 ?_
    try dsimp only
    (try simp (disch := omega) only [u2_same, u2_ne]); (try simp only [hk1])
    refine B_L_act_483 ?_
    try dsimp only
    (try simp (disch := omega) only [u2_same, u2_ne]); (try simp only [hk1])
    refine ⟨by first | exact Or.inl rfl | exact Or.inr rfl | trivial | exact Or.inl trivial | exact Or.inr trivial | omega, ?_⟩
    first
      | (exfalso; omega)
      | exact absurd True.intro (by assumption)
      | exact absurd rfl (by assumption)
      | exact hQ J1 R1 L U _ _ (adZ z (z 98).toNat s (bg w) (1 + v)) (svN nv) _ (LV_of hRK1 hC1 (adZ_WF hV.f.1 ⟨s0, by omega⟩ hcb ⟨by omega, by omega⟩ (by omega) hwho) (by have := hV.f.2.1; omega) (by have := hV.f.2.2; omega) hZ5) (by omega) (by omega) (svN_1 hn1)
  · refine B_L_act_483 ?_
    try dsimp only
    (try simp (disch := omega) only [u2_same, u2_ne]); (try simp only [hk1])
    refine ⟨by first | exact Or.inl rfl | exact Or.inr rfl | trivial | exact Or.inl trivial | exact Or.inr trivial | omega, ?_⟩
    first
      | (exfalso; omega)
      | exact absurd True.intro (by assumption)
      | exact absurd rfl (by assumption)
      | exact hQ J1 R1 L U _ _ (adZ z (z 98).toNat s (bg w) (1 + v)) (svN nv) _ (LV_of hRK1 hC1 (adZ_WF hV.f.1 ⟨s0, by omega⟩ hcb ⟨by omega, by omega⟩ (by omega) hwho) (by have := hV.f.2.1; omega) (by have := hV.f.2.2; omega) hZ5) (by omega) (by omega) (svN_1 hn1)
theorem KA_clr {G : amG} {Q : amR → amH → Prop} (hG : amG0 G) {sT : List (Nat × Nat)} (hS : LH (SH sT) 362 363 364) {z : Row} {nv : Int} {zs : Nat → Row} {x y m : Int} (hx : 0 ≤ x ∧ x ≤ 2147483647) (hy : 0 ≤ y ∧ y ≤ 2147483647) (hm : 0 ≤ m ∧ m ≤ 14) (hn1 : 1 ≤ nv) (h6 : z 316 ≤ 200) (h7 : z 317 ≤ 200) (hQ : ∀ (J : Nat → Nat → Int) (R : Nat → Nat → Option Nat) (L : Nat → Nat → Int64) (U : List (Nat × Nat)) (c t : Nat) (z' : Row) (nv' : Int) (zs' : Nat → Row), LV 0 J J R z' nv' zs' → z' 316 ≤ z 316 + 5 → z' 317 ≤ z 317 + 1 → 1 ≤ nv' → Q (Sum.inl (some (aI 1))) (J, R, L, SH (sT ++ U), 0, c, t)) {J : Nat → Nat → Int} {R : Nat → Nat → Option Nat} {L : Nat → Nat → Int64} {U : List (Nat × Nat)} {c t : Nat} (hV : LV 0 J J R z nv zs) (hc : 3 ≤ c) (ht : 18 ≤ t) {w : Int} (hw : is8 w) (hn0 : 0 ≤ z 98) (h5 : z 98 ≤ 5) (hwho : tAt z (bg w) = -1) :
    ∀ (n : Nat) (K : Nat → Nat → Int) (i : Int), 0 ≤ i → (8 - i < n ∧ i ≤ 8) → (∀ a : Nat, a ≠ 362 → K a = J a) → (∀ f : Nat, (f : Int) < i → K 362 (8 * (z 98).toNat + f) = 0) → (∀ i : Nat, i < 8 * (z 98).toNat → K 362 i = J 362 i) → X G mL_act Q 357 [some (aR (some 0)), some (aI m), some (aI x), some (aI y), some (aR (some 361)), some (aR (some 362)), some (aR (some 363)), some (aR (some 364)), some (aI w), some (aI (8 * z 98)), some (aI i), none, none] [] (K, R, L, SH (sT ++ U), 0, c, t) := by
  intro n
  induction n with
  | zero =>
    intros
    exfalso; omega
  | succ n ih =>
    intro K i h0 hi hK1 hz8 hlt
    refine B_L_act_357 ?_
    try dsimp only
    skip
    refine ⟨fun c361_0 => ?_, fun c361_0 => ?_⟩
    · exact KA_add2 hG hS hx hy hm hn1 h6 h7 hQ hV hc ht hw hn0 h5 hwho hK1 (fun f hf => hz8 f (by omega)) hlt
    · refine ⟨by (refine ⟨?_, ?_⟩ <;> omega), ?_⟩
      refine ⟨_, by first | exact (LH_app hS).2.1 | exact (LH_app hS).2.2.1 | exact (LH_app hS).2.2.2 | exact (LH_app hS).1, ⟨by omega, by omega⟩, ?_⟩
      skip
      refine ⟨by (refine ⟨?_, ?_⟩ <;> omega), ?_⟩
      refine ih _ (i + 1) (by omega) (by omega) (fun a ha => ?_) (fun f hf => ?_) (fun j hj => ?_)
      · rw [u2_off _ _ _ ha]; exact hK1 a ha
      · by_cases e : (f : Int) = i
        · rw [show 8 * (z 98).toNat + f = (8 * z 98 + i).toNat by omega, u2_same]
        · rw [u2_ne _ _ (fun q => by omega)]; exact hz8 f (by omega)
      · rw [u2_ne _ _ (fun q => by omega)]; exact hlt j hj
theorem KA_rest {G : amG} {Q : amR → amH → Prop} (hG : amG0 G) {sT : List (Nat × Nat)} (hS : LH (SH sT) 362 363 364) {z : Row} {nv : Int} {zs : Nat → Row} {x y m : Int} (hx : 0 ≤ x ∧ x ≤ 2147483647) (hy : 0 ≤ y ∧ y ≤ 2147483647) (hm : 0 ≤ m ∧ m ≤ 14) (hn1 : 1 ≤ nv) (h6 : z 316 ≤ 200) (h7 : z 317 ≤ 200) (hQ : ∀ (J : Nat → Nat → Int) (R : Nat → Nat → Option Nat) (L : Nat → Nat → Int64) (U : List (Nat × Nat)) (c t : Nat) (z' : Row) (nv' : Int) (zs' : Nat → Row), LV 0 J J R z' nv' zs' → z' 316 ≤ z 316 + 5 → z' 317 ≤ z 317 + 1 → 1 ≤ nv' → Q (Sum.inl (some (aI 1))) (J, R, L, SH (sT ++ U), 0, c, t)) {J : Nat → Nat → Int} {R : Nat → Nat → Option Nat} {L : Nat → Nat → Int64} {U : List (Nat × Nat)} {c t : Nat} (hV : LV 0 J J R z nv zs) (hc : 10 ≤ c) (ht : 640 ≤ t) : X G mL_act Q 295 [some (aR (some 0)), some (aI m), some (aI x), some (aI y), some (aR (some 361)), some (aR (some 362)), some (aR (some 363)), some (aR (some 364)), none, none, none, none, none] [] (J, R, L, SH (sT ++ U), 0, c, t) := by
  have hnn := hV.l.n
  have hn0 := hV.b.2.1.1
  refine B_L_act_295 ?_
  try dsimp only
  (try simp (disch := omega) only [u2_same, u2_ne]); (try simp (disch := omega) only [hV.l.d.n, hV.l.d.1.1, hV.l.d.1.2.2.1, hV.l.d.1.2.2.2.1, hV.l.t.e0])
  refine ⟨fun c298_0 => ?_, fun c298_0 => ?_⟩
  · exact KA_order hG hS hx hy hm hn1 h6 h7 hQ hV hc ht
  · refine ⟨⟨Nat.zero_le _, Nat.zero_le _, Nat.le_of_ble_eq_true rfl⟩, trivial, ?_⟩
    refine K_at hG hx.1 (by decide) (fun r r0 r1 => ?_)
    refine af_I0 rfl rfl (by decide) ?_
    try dsimp only
    (try simp (disch := omega) only [u2_same, u2_ne]); (try simp (disch := omega) only [hV.l.d.n, hV.l.d.1.1, hV.l.d.1.2.2.1, hV.l.d.1.2.2.2.1, hV.l.t.e0])
    refine B_L_act_307 ?_
    try dsimp only
    (try simp (disch := omega) only [u2_same, u2_ne]); (try simp (disch := omega) only [hV.l.d.n, hV.l.d.1.1, hV.l.d.1.2.2.1, hV.l.d.1.2.2.2.1, hV.l.t.e0])
    refine ⟨fun c307_1 => ?_, fun c307_1 => ?_⟩
    · refine B_L_act_315 ?_
      try dsimp only
      (try simp (disch := omega) only [u2_same, u2_ne]); (try simp (disch := omega) only [hV.l.d.n, hV.l.d.1.1, hV.l.d.1.2.2.1, hV.l.d.1.2.2.2.1, hV.l.t.e0])
      refine B_L_act_317 ?_
      try dsimp only
      (try simp (disch := omega) only [u2_same, u2_ne]); (try simp (disch := omega) only [hV.l.d.n, hV.l.d.1.1, hV.l.d.1.2.2.1, hV.l.d.1.2.2.2.1, hV.l.t.e0])
      refine ⟨⟨Nat.zero_le _, Nat.zero_le _, Nat.le_of_ble_eq_true rfl⟩, trivial, ?_⟩
      refine K_at hG hy.1 (by decide) (fun w w0 w1 => ?_)
      have hw : is8 w := ⟨w0, by omega⟩
      refine af_I0 rfl rfl (by decide) ?_
      try dsimp only
      (try simp (disch := omega) only [u2_same, u2_ne]); (try simp (disch := omega) only [hV.l.d.n, hV.l.d.1.1, hV.l.d.1.2.2.1, hV.l.d.1.2.2.2.1, hV.l.t.e0])
      refine B_L_act_320 ?_
      try dsimp only
      (try simp (disch := omega) only [u2_same, u2_ne]); (try simp (disch := omega) only [hV.l.d.n, hV.l.d.1.1, hV.l.d.1.2.2.1, hV.l.d.1.2.2.2.1, hV.l.t.e0])
      refine ⟨_, by first | exact (LH_app hS).2.1 | exact (LH_app hS).2.2.1 | exact (LH_app hS).2.2.2 | exact (LH_app hS).1, ⟨by omega, by omega⟩, ?_⟩
      (try simp (disch := omega) only [u2_same, u2_ne]); (try simp (disch := omega) only [hV.l.d.n, hV.l.d.1.1, hV.l.d.1.2.2.1, hV.l.d.1.2.2.2.1, hV.l.t.e0])
      refine ⟨fun c328_4 => ?_, fun c328_4 => ?_⟩
      · refine B_L_act_343 ?_
        try dsimp only
        (try simp (disch := omega) only [u2_same, u2_ne]); (try simp (disch := omega) only [hV.l.d.n, hV.l.d.1.1, hV.l.d.1.2.2.1, hV.l.d.1.2.2.2.1, hV.l.t.e0])
        refine ⟨by first | exact Or.inl rfl | exact Or.inr rfl | trivial | exact Or.inl trivial | exact Or.inr trivial | omega, ?_⟩
        exact hQ J R L U _ _ z nv zs (LV_any hV) (by omega) (by omega) hn1
      · refine ⟨⟨Nat.zero_le _, Nat.zero_le _, Nat.le_of_ble_eq_true rfl⟩, trivial, ?_⟩
        have htA : -1 ≤ tAt z (bg w) := (tA_lt z (bg w) (z 98).toNat).1
        refine K_who hG (LH_app hS).2.1 (LH_app hS).2.2.2 hV.l.t hV.l.d.n hV.l.n hV.b hw ?_
        refine af_I0 rfl rfl (by decide) ?_
        try dsimp only
        (try simp (disch := omega) only [u2_same, u2_ne]); (try simp (disch := omega) only [hV.l.d.n, hV.l.d.1.1, hV.l.d.1.2.2.1, hV.l.d.1.2.2.2.1, hV.l.t.e0])
        refine B_L_act_340 ?_
        try dsimp only
        (try simp (disch := omega) only [u2_same, u2_ne]); (try simp (disch := omega) only [hV.l.d.n, hV.l.d.1.1, hV.l.d.1.2.2.1, hV.l.d.1.2.2.2.1, hV.l.t.e0])
        refine ⟨fun c340_5 => ?_, fun c340_5 => ?_⟩
        · refine B_L_act_345 ?_
          try dsimp only
          (try simp (disch := omega) only [u2_same, u2_ne]); (try simp (disch := omega) only [hV.l.d.n, hV.l.d.1.1, hV.l.d.1.2.2.1, hV.l.d.1.2.2.2.1, hV.l.t.e0])
          refine ⟨_, by first | exact (LH_app hS).2.1 | exact (LH_app hS).2.2.1 | exact (LH_app hS).2.2.2 | exact (LH_app hS).1, ⟨by omega, by omega⟩, ?_⟩
          (try simp (disch := omega) only [u2_same, u2_ne]); (try simp (disch := omega) only [hV.l.d.n, hV.l.d.1.1, hV.l.d.1.2.2.1, hV.l.d.1.2.2.2.1, hV.l.t.e0])
          refine ⟨by (refine ⟨?_, ?_⟩ <;> omega), ?_⟩
          exact KA_clr hG hS hx hy hm hn1 h6 h7 hQ hV (by omega) (by omega) hw hn0 (by omega) (by omega) 9 J 0 (by decide) (by decide) (fun _ _ => rfl) (fun f hf => by omega) (fun _ _ => rfl)
        · refine B_L_act_343 ?_
          try dsimp only
          (try simp (disch := omega) only [u2_same, u2_ne]); (try simp (disch := omega) only [hV.l.d.n, hV.l.d.1.1, hV.l.d.1.2.2.1, hV.l.d.1.2.2.2.1, hV.l.t.e0])
          refine ⟨by first | exact Or.inl rfl | exact Or.inr rfl | trivial | exact Or.inl trivial | exact Or.inr trivial | omega, ?_⟩
          exact hQ J R L U _ _ z nv zs (LV_any hV) (by omega) (by omega) hn1
    · refine B_L_act_317 ?_
      try dsimp only
      (try simp (disch := omega) only [u2_same, u2_ne]); (try simp (disch := omega) only [hV.l.d.n, hV.l.d.1.1, hV.l.d.1.2.2.1, hV.l.d.1.2.2.2.1, hV.l.t.e0])
      refine ⟨⟨Nat.zero_le _, Nat.zero_le _, Nat.le_of_ble_eq_true rfl⟩, trivial, ?_⟩
      refine K_at hG hy.1 (by decide) (fun w w0 w1 => ?_)
      have hw : is8 w := ⟨w0, by omega⟩
      refine af_I0 rfl rfl (by decide) ?_
      try dsimp only
      (try simp (disch := omega) only [u2_same, u2_ne]); (try simp (disch := omega) only [hV.l.d.n, hV.l.d.1.1, hV.l.d.1.2.2.1, hV.l.d.1.2.2.2.1, hV.l.t.e0])
      refine B_L_act_320 ?_
      try dsimp only
      (try simp (disch := omega) only [u2_same, u2_ne]); (try simp (disch := omega) only [hV.l.d.n, hV.l.d.1.1, hV.l.d.1.2.2.1, hV.l.d.1.2.2.2.1, hV.l.t.e0])
      refine ⟨_, by first | exact (LH_app hS).2.1 | exact (LH_app hS).2.2.1 | exact (LH_app hS).2.2.2 | exact (LH_app hS).1, ⟨by omega, by omega⟩, ?_⟩
      (try simp (disch := omega) only [u2_same, u2_ne]); (try simp (disch := omega) only [hV.l.d.n, hV.l.d.1.1, hV.l.d.1.2.2.1, hV.l.d.1.2.2.2.1, hV.l.t.e0])
      refine ⟨fun c328_3 => ?_, fun c328_3 => ?_⟩
      · refine B_L_act_343 ?_
        try dsimp only
        (try simp (disch := omega) only [u2_same, u2_ne]); (try simp (disch := omega) only [hV.l.d.n, hV.l.d.1.1, hV.l.d.1.2.2.1, hV.l.d.1.2.2.2.1, hV.l.t.e0])
        refine ⟨by first | exact Or.inl rfl | exact Or.inr rfl | trivial | exact Or.inl trivial | exact Or.inr trivial | omega, ?_⟩
        exact hQ J R L U _ _ z nv zs (LV_any hV) (by omega) (by omega) hn1
      · refine ⟨⟨Nat.zero_le _, Nat.zero_le _, Nat.le_of_ble_eq_true rfl⟩, trivial, ?_⟩
        have htA : -1 ≤ tAt z (bg w) := (tA_lt z (bg w) (z 98).toNat).1
        refine K_who hG (LH_app hS).2.1 (LH_app hS).2.2.2 hV.l.t hV.l.d.n hV.l.n hV.b hw ?_
        refine af_I0 rfl rfl (by decide) ?_
        try dsimp only
        (try simp (disch := omega) only [u2_same, u2_ne]); (try simp (disch := omega) only [hV.l.d.n, hV.l.d.1.1, hV.l.d.1.2.2.1, hV.l.d.1.2.2.2.1, hV.l.t.e0])
        refine B_L_act_340 ?_
        try dsimp only
        (try simp (disch := omega) only [u2_same, u2_ne]); (try simp (disch := omega) only [hV.l.d.n, hV.l.d.1.1, hV.l.d.1.2.2.1, hV.l.d.1.2.2.2.1, hV.l.t.e0])
        refine ⟨fun c340_4 => ?_, fun c340_4 => ?_⟩
        · refine B_L_act_345 ?_
          try dsimp only
          (try simp (disch := omega) only [u2_same, u2_ne]); (try simp (disch := omega) only [hV.l.d.n, hV.l.d.1.1, hV.l.d.1.2.2.1, hV.l.d.1.2.2.2.1, hV.l.t.e0])
          refine ⟨_, by first | exact (LH_app hS).2.1 | exact (LH_app hS).2.2.1 | exact (LH_app hS).2.2.2 | exact (LH_app hS).1, ⟨by omega, by omega⟩, ?_⟩
          (try simp (disch := omega) only [u2_same, u2_ne]); (try simp (disch := omega) only [hV.l.d.n, hV.l.d.1.1, hV.l.d.1.2.2.1, hV.l.d.1.2.2.2.1, hV.l.t.e0])
          refine ⟨by (refine ⟨?_, ?_⟩ <;> omega), ?_⟩
          exact KA_clr hG hS hx hy hm hn1 h6 h7 hQ hV (by omega) (by omega) hw hn0 (by omega) (by omega) 9 J 0 (by decide) (by decide) (fun _ _ => rfl) (fun f hf => by omega) (fun _ _ => rfl)
        · refine B_L_act_343 ?_
          try dsimp only
          (try simp (disch := omega) only [u2_same, u2_ne]); (try simp (disch := omega) only [hV.l.d.n, hV.l.d.1.1, hV.l.d.1.2.2.1, hV.l.d.1.2.2.2.1, hV.l.t.e0])
          refine ⟨by first | exact Or.inl rfl | exact Or.inr rfl | trivial | exact Or.inl trivial | exact Or.inr trivial | omega, ?_⟩
          exact hQ J R L U _ _ z nv zs (LV_any hV) (by omega) (by omega) hn1
theorem KA_gen {G : amG} {Q : amR → amH → Prop} (hG : amG0 G) {sT : List (Nat × Nat)} (hS : LH (SH sT) 362 363 364) {z : Row} {nv : Int} {zs : Nat → Row} {x y m : Int} (hx : 0 ≤ x ∧ x ≤ 2147483647) (hy : 0 ≤ y ∧ y ≤ 2147483647) (hm : 0 ≤ m ∧ m ≤ 14) (hn1 : 1 ≤ nv) (h6 : z 316 ≤ 200) (h7 : z 317 ≤ 200) (hQ : ∀ (J : Nat → Nat → Int) (R : Nat → Nat → Option Nat) (L : Nat → Nat → Int64) (U : List (Nat × Nat)) (c t : Nat) (z' : Row) (nv' : Int) (zs' : Nat → Row), LV 0 J J R z' nv' zs' → z' 316 ≤ z 316 + 5 → z' 317 ≤ z 317 + 1 → 1 ≤ nv' → Q (Sum.inl (some (aI 1))) (J, R, L, SH (sT ++ U), 0, c, t)) {J : Nat → Nat → Int} {R : Nat → Nat → Option Nat} {L : Nat → Nat → Int64} {U : List (Nat × Nat)} {c t : Nat} (hV : LV 0 J J R z nv zs) (hc : 10 ≤ c) (ht : 640 ≤ t) : X G mL_act Q 228 [some (aR (some 0)), some (aI m), some (aI x), some (aI y), some (aR (some 361)), some (aR (some 362)), some (aR (some 363)), some (aR (some 364)), none, none, none, none, none] [] (J, R, L, SH (sT ++ U), 0, c, t) := by
  refine B_L_act_228 ?_
  try dsimp only
  (try simp only [u2_same])
  refine ⟨fun c230_0 => ?_, fun c230_0 => ?_⟩
  · exact KA_rest hG hS hx hy hm hn1 h6 h7 hQ hV hc ht
  · refine ⟨⟨Nat.zero_le _, Nat.zero_le _, Nat.le_of_ble_eq_true rfl⟩, trivial, ?_⟩
    refine K_at hG hx.1 (by decide) (fun s s0 s1 => ?_)
    have hge := hV.l.d.gen (s := s) ⟨s0, by omega⟩
    refine af_I0 rfl rfl (by decide) ?_
    try dsimp only
    (try simp only [u2_same])
    refine B_L_act_238 ?_
    try dsimp only
    (try simp only [u2_same])
    refine ⟨by (refine ⟨?_, ?_⟩ <;> omega), ?_⟩
    refine ⟨_, by first | exact (LH_app hS).2.1 | exact (LH_app hS).2.2.1 | exact (LH_app hS).2.2.2 | exact (LH_app hS).1, ⟨by omega, by omega⟩, ?_⟩
    (try simp only [u2_same])
    refine ⟨⟨Nat.zero_le _, Nat.zero_le _, Nat.le_of_ble_eq_true rfl⟩, trivial, ?_⟩
    rw [hge.1]
    refine K_big hG (sm_in hge.2) ?_
    rw [bg_sm hge.2]
    refine af_I0 rfl rfl (by decide) ?_
    try dsimp only
    (try simp only [u2_same])
    refine B_L_act_251 ?_
    try dsimp only
    (try simp only [u2_same])
    refine ⟨by (refine ⟨?_, ?_⟩ <;> omega), ?_⟩
    refine ⟨⟨Nat.zero_le _, Nat.zero_le _, Nat.le_of_ble_eq_true rfl⟩, trivial, ?_⟩
    refine K_at hG hy.1 (by decide) (fun w w0 w1 => ?_)
    have hw : is8 w := ⟨w0, w1⟩
    have hgb : 0 ≤ bg w ∧ bg w ≤ 95 := by have := bg_C hw; unfold isC at this; omega
    refine af_I0 rfl rfl (by decide) ?_
    try dsimp only
    (try simp only [u2_same])
    refine B_L_act_266 ?_
    try dsimp only
    (try simp only [u2_same])
    refine ⟨_, by first | exact (LH_app hS).2.1 | exact (LH_app hS).2.2.1 | exact (LH_app hS).2.2.2 | exact (LH_app hS).1, ⟨by omega, by omega⟩, ?_⟩
    (try simp only [u2_same])
    refine ⟨by (refine ⟨?_, ?_⟩ <;> omega), ?_⟩
    refine ⟨_, by first | exact (LH_app hS).2.1 | exact (LH_app hS).2.2.1 | exact (LH_app hS).2.2.2 | exact (LH_app hS).1, ⟨by omega, by omega⟩, ?_⟩
    (try simp only [u2_same])
    refine ⟨⟨Nat.zero_le _, Nat.zero_le _, Nat.le_of_ble_eq_true rfl⟩, trivial, ?_⟩
    refine K_big hG hw ?_
    refine af_I0 rfl rfl (by decide) ?_
    try dsimp only
    (try simp only [u2_same])
    refine B_L_act_281 ?_
    try dsimp only
    (try simp only [u2_same])
    refine ⟨⟨by omega, by omega, Nat.le_of_ble_eq_true rfl⟩, so0, ?_⟩
    refine D_moveGeneral hG hV.k (CS_off hV.c hV.f (fun c hc => by repeat rw [u2_off _ _ _ (by omega)])) hV.f (fun q => absurd ⟨⟨s0, by omega⟩, hgb⟩ q) (fun _ => QWx (fun J1 R1 c1 t1 j1 hRK1 hC1 => ?_))
    have hZ5 : LZ J1 362 363 364 (uz z (96 + s).toNat (bg w)) := LZ_off (LZ_gen hV.l ⟨s0, by omega⟩ hw) (fun e he => j1 e (by omega))
    have g316 : uz z (96 + s).toNat (bg w) 316 = z 316 := uz_ne _ _ (by omega)
    have g317 : uz z (96 + s).toNat (bg w) 317 = z 317 := uz_ne _ _ (by omega)
    refine af_I (cc := 2) (tt := 12) rfl rfl (by decide) ?_
    try dsimp only
    (try simp only [u2_same])
    refine B_L_act_284 ?_
    try dsimp only
    (try simp only [u2_same])
    refine ⟨fun c286_5 => ?_, fun c286_5 => ?_⟩
    · refine B_L_act_293 ?_
      try dsimp only
      (try simp only [u2_same])
      refine B_L_act_294 ?_
      try dsimp only
      (try simp only [u2_same])
      refine ⟨by first | exact Or.inl rfl | exact Or.inr rfl | trivial | exact Or.inl trivial | exact Or.inr trivial | omega, ?_⟩
      first
        | (exfalso; omega)
        | exact absurd True.intro (by assumption)
        | exact absurd rfl (by assumption)
        | exact hQ J1 R1 L U _ _ (uz z (96 + s).toNat (bg w)) (svN nv) _ (LV_of hRK1 hC1 (mg_WF hV.f.1 ⟨⟨s0, by omega⟩, hgb⟩) (by have := hV.f.2.1; omega) (by have := hV.f.2.2; omega) hZ5) (by omega) (by omega) (svN_1 hn1)
    · refine B_L_act_294 ?_
      try dsimp only
      (try simp only [u2_same])
      refine ⟨by first | exact Or.inl rfl | exact Or.inr rfl | trivial | exact Or.inl trivial | exact Or.inr trivial | omega, ?_⟩
      first
        | (exfalso; omega)
        | exact absurd True.intro (by assumption)
        | exact absurd rfl (by assumption)
        | exact hQ J1 R1 L U _ _ (uz z (96 + s).toNat (bg w)) (svN nv) _ (LV_of hRK1 hC1 (mg_WF hV.f.1 ⟨⟨s0, by omega⟩, hgb⟩) (by have := hV.f.2.1; omega) (by have := hV.f.2.2; omega) hZ5) (by omega) (by omega) (svN_1 hn1)
theorem KA_sh2 {G : amG} {Q : amR → amH → Prop} (hG : amG0 G) {sT : List (Nat × Nat)} (hS : LH (SH sT) 362 363 364) {z : Row} {nv : Int} {zs : Nat → Row} {x y m : Int} (hx : 0 ≤ x ∧ x ≤ 2147483647) (hy : 0 ≤ y ∧ y ≤ 2147483647) (hm : 0 ≤ m ∧ m ≤ 14) (hn1 : 1 ≤ nv) (h6 : z 316 ≤ 200) (h7 : z 317 ≤ 200) (hQ : ∀ (J : Nat → Nat → Int) (R : Nat → Nat → Option Nat) (L : Nat → Nat → Int64) (U : List (Nat × Nat)) (c t : Nat) (z' : Row) (nv' : Int) (zs' : Nat → Row), LV 0 J J R z' nv' zs' → z' 316 ≤ z 316 + 5 → z' 317 ≤ z 317 + 1 → 1 ≤ nv' → Q (Sum.inl (some (aI 1))) (J, R, L, SH (sT ++ U), 0, c, t)) {J : Nat → Nat → Int} {R : Nat → Nat → Option Nat} {L : Nat → Nat → Int64} {U : List (Nat × Nat)} {c t : Nat} (hV : LV 0 J J R z nv zs) (hc : 3 ≤ c) (ht : 18 ≤ t) {K : Nat → Nat → Int} {a b h o i : Int} (ha : is8 a) (hb : is8 b) (hab : a % 8 ≤ b % 8 ∧ a / 8 ≤ b / 8) (hh : 0 ≤ h ∧ h ≤ 6) (hK1 : ∀ a : Nat, a ≠ 361 → K a = J a) (hE : EH (K 361) (shZ z (bg a) (bg b) h (bg b - bg a + 1).toNat).1) (ho : o = (shZ z (bg a) (bg b) h (bg b - bg a + 1).toNat).2) : X G mL_act Q 201 [some (aR (some 0)), some (aI m), some (aI x), some (aI y), some (aR (some 361)), some (aR (some 362)), some (aR (some 363)), some (aR (some 364)), some (aI a), some (aI b), some (aI h), some (aI o), some (aI i)] [] (K, R, L, SH (sT ++ U), 0, c, t) := by
  have hga : 0 ≤ bg a ∧ bg a ≤ 95 := by have := bg_C ha; unfold isC at this; omega
  have hgb : 0 ≤ bg b ∧ bg b ≤ 95 := by have := bg_C hb; unfold isC at this; omega
  have hrc : bg a % 12 ≤ bg b % 12 ∧ bg a / 12 ≤ bg b / 12 := by unfold is8 at ha hb; unfold bg; omega
  refine B_L_act_201 ?_
  try dsimp only
  skip
  refine ⟨⟨Nat.zero_le _, Nat.zero_le _, Nat.le_of_ble_eq_true rfl⟩, trivial, ?_⟩
  refine K_big hG ha ?_
  refine af_I0 rfl rfl (by decide) ?_
  try dsimp only
  skip
  refine B_L_act_207 ?_
  try dsimp only
  skip
  refine ⟨⟨Nat.zero_le _, Nat.zero_le _, Nat.le_of_ble_eq_true rfl⟩, trivial, ?_⟩
  refine K_big hG hb ?_
  refine af_I0 rfl rfl (by decide) ?_
  try dsimp only
  skip
  refine B_L_act_212 ?_
  try dsimp only
  skip
  refine ⟨⟨by omega, by omega, Nat.le_of_ble_eq_true rfl⟩, so0, ?_⟩
  refine D_shape hG hV.k (CS_off hV.c hV.f (fun c hc => by rw [hK1 c (by omega)])) hV.f (fun q => absurd ⟨hga, hgb⟩ q) (fun q => absurd ⟨hrc, by omega⟩ q.2) (fun _ => QWx (fun J1 R1 c1 t1 j1 hRK1 hC1 => ?_))
  have hWF := sh_WF (w := h) hV.f.1 ⟨⟨hga, hgb⟩, hrc, by omega⟩
  have hZ5 : LZ J1 362 363 364 (shZ z (bg a) (bg b) h (bg b - bg a + 1).toNat).1 := LZ_he hV.l (by rw [j1 361 (by decide)]; exact hE) ⟨by rw [j1 362 (by decide)]; exact hK1 _ (by decide), by rw [j1 363 (by decide)]; exact hK1 _ (by decide), by rw [j1 364 (by decide)]; exact hK1 _ (by decide)⟩ hWF.2
  have g316 := hWF.2 316 (by decide)
  have g317 := hWF.2 317 (by decide)
  refine af_I (cc := 3) (tt := 18) rfl rfl (by decide) ?_
  try dsimp only
  skip
  refine B_L_act_217 ?_
  try dsimp only
  skip
  refine ⟨fun c219_3 => ?_, fun c219_3 => ?_⟩
  · refine B_L_act_226 ?_
    try dsimp only
    skip
    refine B_L_act_227 ?_
    try dsimp only
    skip
    refine ⟨by first | exact Or.inl rfl | exact Or.inr rfl | trivial | exact Or.inl trivial | exact Or.inr trivial | omega, ?_⟩
    first
      | (exfalso; omega)
      | exact absurd True.intro (by assumption)
      | exact absurd rfl (by assumption)
      | exact hQ J1 R1 L U _ _ _ (svN nv) _ (LV_of hRK1 hC1 hWF.1 (by have := hV.f.2.1; omega) (by have := hV.f.2.2; omega) hZ5) (by omega) (by omega) (svN_1 hn1)
  · refine B_L_act_227 ?_
    try dsimp only
    skip
    refine ⟨by first | exact Or.inl rfl | exact Or.inr rfl | trivial | exact Or.inl trivial | exact Or.inr trivial | omega, ?_⟩
    first
      | (exfalso; omega)
      | exact absurd True.intro (by assumption)
      | exact absurd rfl (by assumption)
      | exact hQ J1 R1 L U _ _ _ (svN nv) _ (LV_of hRK1 hC1 hWF.1 (by have := hV.f.2.1; omega) (by have := hV.f.2.2; omega) hZ5) (by omega) (by omega) (svN_1 hn1)
theorem KA_shl {G : amG} {Q : amR → amH → Prop} (hG : amG0 G) {sT : List (Nat × Nat)} (hS : LH (SH sT) 362 363 364) {z : Row} {nv : Int} {zs : Nat → Row} {x y m : Int} (hx : 0 ≤ x ∧ x ≤ 2147483647) (hy : 0 ≤ y ∧ y ≤ 2147483647) (hm : 0 ≤ m ∧ m ≤ 14) (hn1 : 1 ≤ nv) (h6 : z 316 ≤ 200) (h7 : z 317 ≤ 200) (hQ : ∀ (J : Nat → Nat → Int) (R : Nat → Nat → Option Nat) (L : Nat → Nat → Int64) (U : List (Nat × Nat)) (c t : Nat) (z' : Row) (nv' : Int) (zs' : Nat → Row), LV 0 J J R z' nv' zs' → z' 316 ≤ z 316 + 5 → z' 317 ≤ z 317 + 1 → 1 ≤ nv' → Q (Sum.inl (some (aI 1))) (J, R, L, SH (sT ++ U), 0, c, t)) {J : Nat → Nat → Int} {R : Nat → Nat → Option Nat} {L : Nat → Nat → Int64} {U : List (Nat × Nat)} {c t : Nat} (hV : LV 0 J J R z nv zs) (hc : 3 ≤ c) (ht : 18 ≤ t) {a b h : Int} (ha : is8 a) (hb : is8 b) (hab : a % 8 ≤ b % 8 ∧ a / 8 ≤ b / 8) (hh : 0 ≤ h ∧ h ≤ 6) :
    ∀ (n : Nat) (K : Nat → Nat → Int) (o i : Int), 0 ≤ i → (64 - i < n ∧ i ≤ 64) → (∀ a : Nat, a ≠ 361 → K a = J a) → EH (K 361) (shP z (bg a) (bg b) h (bg i)).1 → o = (shP z (bg a) (bg b) h (bg i)).2 → (0 ≤ o ∧ o ≤ i) → X G mL_act Q 106 [some (aR (some 0)), some (aI m), some (aI x), some (aI y), some (aR (some 361)), some (aR (some 362)), some (aR (some 363)), some (aR (some 364)), some (aI a), some (aI b), some (aI h), some (aI o), some (aI i)] [] (K, R, L, SH (sT ++ U), 0, c, t) := by
  intro n
  induction n with
  | zero =>
    intros
    exfalso; omega
  | succ n ih =>
    intro K o i h0 hi hK1 hE ho hob
    have ha2 := ha
    have hb2 := hb
    unfold is8 at ha2 hb2
    have tma : Int.tmod a 8 = a % 8 := Int.tmod_eq_emod_of_nonneg (by omega)
    have tda : Int.tdiv a 8 = a / 8 := Int.tdiv_eq_ediv_of_nonneg (by omega)
    have tmb : Int.tmod b 8 = b % 8 := Int.tmod_eq_emod_of_nonneg (by omega)
    have tdb : Int.tdiv b 8 = b / 8 := Int.tdiv_eq_ediv_of_nonneg (by omega)
    have tmi : Int.tmod i 8 = i % 8 := Int.tmod_eq_emod_of_nonneg (by omega)
    have tdi : Int.tdiv i 8 = i / 8 := Int.tdiv_eq_ediv_of_nonneg (by omega)
    have hA : 0 ≤ bg a ∧ bg a ≤ bg b := by unfold bg; omega
    have hn := fun (q : is8 i) => shP_n (z := z) (h := h) ha hb hab q
    have he := fun (q : is8 i) => (hE.1 i q).1
    refine B_L_act_106 ?_
    try dsimp only
    try simp only [tma, tda, tmb, tdb, tmi, tdi]
    refine ⟨fun c110_0 => ?_, fun c110_0 => ?_⟩
    · have ei : i = 64 := by omega
      subst ei
      have hz := shP_z (z := z) (A := bg a) (B := bg b) (h := h) (p := bg 64) (by unfold bg; omega)
      rw [hz] at hE ho
      exact KA_sh2 hG hS hx hy hm hn1 h6 h7 hQ hV hc ht ha hb hab hh hK1 hE ho
    · refine ⟨⟨by decide, by (refine ⟨?_, ?_⟩ <;> omega)⟩, ?_⟩
      refine ⟨⟨by decide, by (refine ⟨?_, ?_⟩ <;> omega)⟩, ?_⟩
      refine ⟨fun c123_0 => ?_, fun c123_0 => ?_⟩
      · refine B_L_act_195 ?_
        try dsimp only
        try simp only [tma, tda, tmb, tdb, tmi, tdi]
        refine ⟨by (refine ⟨?_, ?_⟩ <;> omega), ?_⟩
        have hi8 : is8 i := ⟨h0, by omega⟩
        have hn1' := hn hi8
        have he1 := he hi8
        first
          | (rw [if_neg (by omega)] at hn1'
             refine ih K o (i + 1) (by omega) (by omega) hK1 (by rw [hn1']; exact hE) (by rw [hn1']; exact ho) ⟨hob.1, by omega⟩)
          | (rw [if_pos (by omega)] at hn1'
             refine ih _ _ (i + 1) (by omega) (by omega) (fun e he => by rw [u2_off _ _ _ he]; exact hK1 e he) (by rw [u2_at, hn1']; exact EH_w hE hi8 hh) ?_ ⟨by omega, by omega⟩
             rw [hn1']
             show _ = (shP z (bg a) (bg b) h (bg i)).2 + _
             rw [← he1]
             first
               | (rw [if_pos (by omega)]; omega)
               | (rw [if_neg (by omega)]; omega))
      · refine ⟨⟨by decide, by (refine ⟨?_, ?_⟩ <;> omega)⟩, ?_⟩
        refine ⟨⟨by decide, by (refine ⟨?_, ?_⟩ <;> omega)⟩, ?_⟩
        refine ⟨fun c136_0 => ?_, fun c136_0 => ?_⟩
        · refine B_L_act_195 ?_
          try dsimp only
          try simp only [tma, tda, tmb, tdb, tmi, tdi]
          refine ⟨by (refine ⟨?_, ?_⟩ <;> omega), ?_⟩
          have hi8 : is8 i := ⟨h0, by omega⟩
          have hn1' := hn hi8
          have he1 := he hi8
          first
            | (rw [if_neg (by omega)] at hn1'
               refine ih K o (i + 1) (by omega) (by omega) hK1 (by rw [hn1']; exact hE) (by rw [hn1']; exact ho) ⟨hob.1, by omega⟩)
            | (rw [if_pos (by omega)] at hn1'
               refine ih _ _ (i + 1) (by omega) (by omega) (fun e he => by rw [u2_off _ _ _ he]; exact hK1 e he) (by rw [u2_at, hn1']; exact EH_w hE hi8 hh) ?_ ⟨by omega, by omega⟩
               rw [hn1']
               show _ = (shP z (bg a) (bg b) h (bg i)).2 + _
               rw [← he1]
               first
                 | (rw [if_pos (by omega)]; omega)
                 | (rw [if_neg (by omega)]; omega))
        · refine ⟨⟨by decide, by (refine ⟨?_, ?_⟩ <;> omega)⟩, ?_⟩
          refine ⟨⟨by decide, by (refine ⟨?_, ?_⟩ <;> omega)⟩, ?_⟩
          refine ⟨fun c149_0 => ?_, fun c149_0 => ?_⟩
          · refine B_L_act_195 ?_
            try dsimp only
            try simp only [tma, tda, tmb, tdb, tmi, tdi]
            refine ⟨by (refine ⟨?_, ?_⟩ <;> omega), ?_⟩
            have hi8 : is8 i := ⟨h0, by omega⟩
            have hn1' := hn hi8
            have he1 := he hi8
            first
              | (rw [if_neg (by omega)] at hn1'
                 refine ih K o (i + 1) (by omega) (by omega) hK1 (by rw [hn1']; exact hE) (by rw [hn1']; exact ho) ⟨hob.1, by omega⟩)
              | (rw [if_pos (by omega)] at hn1'
                 refine ih _ _ (i + 1) (by omega) (by omega) (fun e he => by rw [u2_off _ _ _ he]; exact hK1 e he) (by rw [u2_at, hn1']; exact EH_w hE hi8 hh) ?_ ⟨by omega, by omega⟩
                 rw [hn1']
                 show _ = (shP z (bg a) (bg b) h (bg i)).2 + _
                 rw [← he1]
                 first
                   | (rw [if_pos (by omega)]; omega)
                   | (rw [if_neg (by omega)]; omega))
          · refine ⟨⟨by decide, by (refine ⟨?_, ?_⟩ <;> omega)⟩, ?_⟩
            refine ⟨⟨by decide, by (refine ⟨?_, ?_⟩ <;> omega)⟩, ?_⟩
            refine ⟨fun c162_0 => ?_, fun c162_0 => ?_⟩
            · refine B_L_act_168 ?_
              try dsimp only
              try simp only [tma, tda, tmb, tdb, tmi, tdi]
              refine ⟨_, by first | exact (LH_app hS).2.1 | exact (LH_app hS).2.2.1 | exact (LH_app hS).2.2.2 | exact (LH_app hS).1, ⟨by omega, by omega⟩, ?_⟩
              try simp only [tma, tda, tmb, tdb, tmi, tdi]
              refine ⟨fun c177_1 => ?_, fun c177_1 => ?_⟩
              · refine B_L_act_184 ?_
                try dsimp only
                try simp only [tma, tda, tmb, tdb, tmi, tdi]
                refine B_L_act_185 ?_
                try dsimp only
                try simp only [tma, tda, tmb, tdb, tmi, tdi]
                refine ⟨by (refine ⟨?_, ?_⟩ <;> omega), ?_⟩
                refine ⟨_, by first | exact (LH_app hS).2.1 | exact (LH_app hS).2.2.1 | exact (LH_app hS).2.2.2 | exact (LH_app hS).1, ⟨by omega, by omega⟩, ?_⟩
                try simp only [tma, tda, tmb, tdb, tmi, tdi]
                refine B_L_act_195 ?_
                try dsimp only
                try simp only [tma, tda, tmb, tdb, tmi, tdi]
                refine ⟨by (refine ⟨?_, ?_⟩ <;> omega), ?_⟩
                have hi8 : is8 i := ⟨h0, by omega⟩
                have hn1' := hn hi8
                have he1 := he hi8
                first
                  | (rw [if_neg (by omega)] at hn1'
                     refine ih K o (i + 1) (by omega) (by omega) hK1 (by rw [hn1']; exact hE) (by rw [hn1']; exact ho) ⟨hob.1, by omega⟩)
                  | (rw [if_pos (by omega)] at hn1'
                     refine ih _ _ (i + 1) (by omega) (by omega) (fun e he => by rw [u2_off _ _ _ he]; exact hK1 e he) (by rw [u2_at, hn1']; exact EH_w hE hi8 hh) ?_ ⟨by omega, by omega⟩
                     rw [hn1']
                     show _ = (shP z (bg a) (bg b) h (bg i)).2 + _
                     rw [← he1]
                     first
                       | (rw [if_pos (by omega)]; omega)
                       | (rw [if_neg (by omega)]; omega))
              · refine B_L_act_185 ?_
                try dsimp only
                try simp only [tma, tda, tmb, tdb, tmi, tdi]
                refine ⟨by (refine ⟨?_, ?_⟩ <;> omega), ?_⟩
                refine ⟨_, by first | exact (LH_app hS).2.1 | exact (LH_app hS).2.2.1 | exact (LH_app hS).2.2.2 | exact (LH_app hS).1, ⟨by omega, by omega⟩, ?_⟩
                try simp only [tma, tda, tmb, tdb, tmi, tdi]
                refine B_L_act_195 ?_
                try dsimp only
                try simp only [tma, tda, tmb, tdb, tmi, tdi]
                refine ⟨by (refine ⟨?_, ?_⟩ <;> omega), ?_⟩
                have hi8 : is8 i := ⟨h0, by omega⟩
                have hn1' := hn hi8
                have he1 := he hi8
                first
                  | (rw [if_neg (by omega)] at hn1'
                     refine ih K o (i + 1) (by omega) (by omega) hK1 (by rw [hn1']; exact hE) (by rw [hn1']; exact ho) ⟨hob.1, by omega⟩)
                  | (rw [if_pos (by omega)] at hn1'
                     refine ih _ _ (i + 1) (by omega) (by omega) (fun e he => by rw [u2_off _ _ _ he]; exact hK1 e he) (by rw [u2_at, hn1']; exact EH_w hE hi8 hh) ?_ ⟨by omega, by omega⟩
                     rw [hn1']
                     show _ = (shP z (bg a) (bg b) h (bg i)).2 + _
                     rw [← he1]
                     first
                       | (rw [if_pos (by omega)]; omega)
                       | (rw [if_neg (by omega)]; omega))
            · refine B_L_act_195 ?_
              try dsimp only
              try simp only [tma, tda, tmb, tdb, tmi, tdi]
              refine ⟨by (refine ⟨?_, ?_⟩ <;> omega), ?_⟩
              have hi8 : is8 i := ⟨h0, by omega⟩
              have hn1' := hn hi8
              have he1 := he hi8
              first
                | (rw [if_neg (by omega)] at hn1'
                   refine ih K o (i + 1) (by omega) (by omega) hK1 (by rw [hn1']; exact hE) (by rw [hn1']; exact ho) ⟨hob.1, by omega⟩)
                | (rw [if_pos (by omega)] at hn1'
                   refine ih _ _ (i + 1) (by omega) (by omega) (fun e he => by rw [u2_off _ _ _ he]; exact hK1 e he) (by rw [u2_at, hn1']; exact EH_w hE hi8 hh) ?_ ⟨by omega, by omega⟩
                   rw [hn1']
                   show _ = (shP z (bg a) (bg b) h (bg i)).2 + _
                   rw [← he1]
                   first
                     | (rw [if_pos (by omega)]; omega)
                     | (rw [if_neg (by omega)]; omega))
/-- ACT: an act is done, on the class and beside it -/
theorem KA_act {G : amG} {Q : amR → amH → Prop} (hG : amG0 G) {sT : List (Nat × Nat)} (hS : LH (SH sT) 362 363 364) {z : Row} {nv : Int} {zs : Nat → Row} {x y m : Int} (hx : 0 ≤ x ∧ x ≤ 2147483647) (hy : 0 ≤ y ∧ y ≤ 2147483647) (hm : 0 ≤ m ∧ m ≤ 14) (hn1 : 1 ≤ nv) (h6 : z 316 ≤ 200) (h7 : z 317 ≤ 200) (hQ : ∀ (J : Nat → Nat → Int) (R : Nat → Nat → Option Nat) (L : Nat → Nat → Int64) (U : List (Nat × Nat)) (c t : Nat) (z' : Row) (nv' : Int) (zs' : Nat → Row), LV 0 J J R z' nv' zs' → z' 316 ≤ z 316 + 5 → z' 317 ≤ z 317 + 1 → 1 ≤ nv' → Q (Sum.inl (some (aI 1))) (J, R, L, SH (sT ++ U), 0, c, t)) {J : Nat → Nat → Int} {R : Nat → Nat → Option Nat} {L : Nat → Nat → Int64} {U : List (Nat × Nat)} {c t : Nat} (hV : LV 0 J J R z nv zs) (hc : 10 ≤ c) (ht : 640 ≤ t) : X G mL_act Q 0 [some (aR (some 0)), some (aI m), some (aI x), some (aI y), some (aR (some 361)), some (aR (some 362)), some (aR (some 363)), some (aR (some 364)), none, none, none, none, none] [] (J, R, L, SH (sT ++ U), 0, c, t) := by
  refine B_L_act_0 ?_
  try dsimp only
  try simp only [tma, tda]
  refine ⟨fun c2_0 => ?_, fun c2_0 => ?_⟩
  · exact KA_gen hG hS hx hy hm hn1 h6 h7 hQ hV hc ht
  · refine ⟨⟨Nat.zero_le _, Nat.zero_le _, Nat.le_of_ble_eq_true rfl⟩, trivial, ?_⟩
    refine K_at hG hx.1 (by decide) (fun a a0 a1 => ?_)
    have ha : is8 a := ⟨a0, a1⟩
    have tma : Int.tmod a 8 = a % 8 := Int.tmod_eq_emod_of_nonneg (by omega)
    have tda : Int.tdiv a 8 = a / 8 := Int.tdiv_eq_ediv_of_nonneg (by omega)
    refine af_I0 rfl rfl (by decide) ?_
    try dsimp only
    try simp only [tma, tda]
    refine B_L_act_11 ?_
    try dsimp only
    try simp only [tma, tda]
    refine ⟨⟨by decide, by (refine ⟨?_, ?_⟩ <;> omega)⟩, ?_⟩
    refine ⟨⟨by decide, by (refine ⟨?_, ?_⟩ <;> omega)⟩, ?_⟩
    refine ⟨by (refine ⟨?_, ?_⟩ <;> omega), ?_⟩
    refine ⟨fun c28_1 => ?_, fun c28_1 => ?_⟩
    · refine B_L_act_42 ?_
      try dsimp only
      try simp only [tma, tda]
      refine B_L_act_43 ?_
      try dsimp only
      try simp only [tma, tda]
      refine ⟨⟨Nat.zero_le _, Nat.zero_le _, Nat.le_of_ble_eq_true rfl⟩, trivial, ?_⟩
      refine K_at hG hy.1 ⟨by omega, by omega⟩ (fun r r0 r1 => ?_)
      refine af_I0 rfl rfl (by decide) ?_
      try dsimp only
      try simp only [tma, tda]
      refine B_L_act_46 ?_
      try dsimp only
      try simp only [tma, tda]
      refine ⟨by (refine ⟨?_, ?_⟩ <;> omega), ?_⟩
      refine ⟨⟨by decide, by (refine ⟨?_, ?_⟩ <;> omega)⟩, ?_⟩
      refine ⟨⟨by decide, by (refine ⟨?_, ?_⟩ <;> omega)⟩, ?_⟩
      refine ⟨by (refine ⟨?_, ?_⟩ <;> omega), ?_⟩
      refine ⟨fun c66_4 => ?_, fun c66_4 => ?_⟩
      · refine B_L_act_80 ?_
        try dsimp only
        try simp only [tma, tda]
        refine B_L_act_81 ?_
        try dsimp only
        try simp only [tma, tda]
        refine ⟨⟨Nat.zero_le _, Nat.zero_le _, Nat.le_of_ble_eq_true rfl⟩, trivial, ?_⟩
        have hs3 := sh_s0 hy (k := 3) (by decide)
        refine K_at hG hs3.1 ⟨by omega, by omega⟩ (fun s s0 s1 => ?_)
        refine af_I0 rfl rfl (by decide) ?_
        try dsimp only
        try simp only [tma, tda]
        refine B_L_act_84 ?_
        try dsimp only
        try simp only [tma, tda]
        refine ⟨by (refine ⟨?_, ?_⟩ <;> omega), ?_⟩
        refine ⟨by (refine ⟨?_, ?_⟩ <;> omega), ?_⟩
        refine ⟨by (refine ⟨?_, ?_⟩ <;> omega), ?_⟩
        refine ⟨⟨Nat.zero_le _, Nat.zero_le _, Nat.le_of_ble_eq_true rfl⟩, trivial, ?_⟩
        have hs6 := sh_s0 hy (k := 6) (by decide)
        refine K_at hG hs6.1 (by decide) (fun h h0 h1 => ?_)
        refine af_I0 rfl rfl (by decide) ?_
        try dsimp only
        try simp only [tma, tda]
        refine B_L_act_98 ?_
        try dsimp only
        try simp only [tma, tda]
        refine KA_shl hG hS hx hy hm hn1 h6 h7 hQ hV (by omega) (by omega) ha (by unfold is8; omega) (by omega) ⟨h0, by omega⟩ 65 J 0 0 (by decide) (by decide) (fun _ _ => rfl) ?_ ?_ (by decide)
        · rw [shP_0 (by unfold bg; omega) (by unfold bg; omega)]; exact hV.l.h
        · rw [shP_0 (by unfold bg; omega) (by unfold bg; omega)]
      · refine ⟨⟨by decide, by (refine ⟨?_, ?_⟩ <;> omega)⟩, ?_⟩
        refine ⟨by (refine ⟨?_, ?_⟩ <;> omega), ?_⟩
        refine B_L_act_81 ?_
        try dsimp only
        try simp only [tma, tda]
        refine ⟨⟨Nat.zero_le _, Nat.zero_le _, Nat.le_of_ble_eq_true rfl⟩, trivial, ?_⟩
        have hs3 := sh_s0 hy (k := 3) (by decide)
        refine K_at hG hs3.1 ⟨by omega, by omega⟩ (fun s s0 s1 => ?_)
        refine af_I0 rfl rfl (by decide) ?_
        try dsimp only
        try simp only [tma, tda]
        refine B_L_act_84 ?_
        try dsimp only
        try simp only [tma, tda]
        refine ⟨by (refine ⟨?_, ?_⟩ <;> omega), ?_⟩
        refine ⟨by (refine ⟨?_, ?_⟩ <;> omega), ?_⟩
        refine ⟨by (refine ⟨?_, ?_⟩ <;> omega), ?_⟩
        refine ⟨⟨Nat.zero_le _, Nat.zero_le _, Nat.le_of_ble_eq_true rfl⟩, trivial, ?_⟩
        have hs6 := sh_s0 hy (k := 6) (by decide)
        refine K_at hG hs6.1 (by decide) (fun h h0 h1 => ?_)
        refine af_I0 rfl rfl (by decide) ?_
        try dsimp only
        try simp only [tma, tda]
        refine B_L_act_98 ?_
        try dsimp only
        try simp only [tma, tda]
        refine KA_shl hG hS hx hy hm hn1 h6 h7 hQ hV (by omega) (by omega) ha (by unfold is8; omega) (by omega) ⟨h0, by omega⟩ 65 J 0 0 (by decide) (by decide) (fun _ _ => rfl) ?_ ?_ (by decide)
        · rw [shP_0 (by unfold bg; omega) (by unfold bg; omega)]; exact hV.l.h
        · rw [shP_0 (by unfold bg; omega) (by unfold bg; omega)]
    · refine ⟨⟨by decide, by (refine ⟨?_, ?_⟩ <;> omega)⟩, ?_⟩
      refine ⟨by (refine ⟨?_, ?_⟩ <;> omega), ?_⟩
      refine B_L_act_43 ?_
      try dsimp only
      try simp only [tma, tda]
      refine ⟨⟨Nat.zero_le _, Nat.zero_le _, Nat.le_of_ble_eq_true rfl⟩, trivial, ?_⟩
      refine K_at hG hy.1 ⟨by omega, by omega⟩ (fun r r0 r1 => ?_)
      refine af_I0 rfl rfl (by decide) ?_
      try dsimp only
      try simp only [tma, tda]
      refine B_L_act_46 ?_
      try dsimp only
      try simp only [tma, tda]
      refine ⟨by (refine ⟨?_, ?_⟩ <;> omega), ?_⟩
      refine ⟨⟨by decide, by (refine ⟨?_, ?_⟩ <;> omega)⟩, ?_⟩
      refine ⟨⟨by decide, by (refine ⟨?_, ?_⟩ <;> omega)⟩, ?_⟩
      refine ⟨by (refine ⟨?_, ?_⟩ <;> omega), ?_⟩
      refine ⟨fun c66_3 => ?_, fun c66_3 => ?_⟩
      · refine B_L_act_80 ?_
        try dsimp only
        try simp only [tma, tda]
        refine B_L_act_81 ?_
        try dsimp only
        try simp only [tma, tda]
        refine ⟨⟨Nat.zero_le _, Nat.zero_le _, Nat.le_of_ble_eq_true rfl⟩, trivial, ?_⟩
        have hs3 := sh_s0 hy (k := 3) (by decide)
        refine K_at hG hs3.1 ⟨by omega, by omega⟩ (fun s s0 s1 => ?_)
        refine af_I0 rfl rfl (by decide) ?_
        try dsimp only
        try simp only [tma, tda]
        refine B_L_act_84 ?_
        try dsimp only
        try simp only [tma, tda]
        refine ⟨by (refine ⟨?_, ?_⟩ <;> omega), ?_⟩
        refine ⟨by (refine ⟨?_, ?_⟩ <;> omega), ?_⟩
        refine ⟨by (refine ⟨?_, ?_⟩ <;> omega), ?_⟩
        refine ⟨⟨Nat.zero_le _, Nat.zero_le _, Nat.le_of_ble_eq_true rfl⟩, trivial, ?_⟩
        have hs6 := sh_s0 hy (k := 6) (by decide)
        refine K_at hG hs6.1 (by decide) (fun h h0 h1 => ?_)
        refine af_I0 rfl rfl (by decide) ?_
        try dsimp only
        try simp only [tma, tda]
        refine B_L_act_98 ?_
        try dsimp only
        try simp only [tma, tda]
        refine KA_shl hG hS hx hy hm hn1 h6 h7 hQ hV (by omega) (by omega) ha (by unfold is8; omega) (by omega) ⟨h0, by omega⟩ 65 J 0 0 (by decide) (by decide) (fun _ _ => rfl) ?_ ?_ (by decide)
        · rw [shP_0 (by unfold bg; omega) (by unfold bg; omega)]; exact hV.l.h
        · rw [shP_0 (by unfold bg; omega) (by unfold bg; omega)]
      · refine ⟨⟨by decide, by (refine ⟨?_, ?_⟩ <;> omega)⟩, ?_⟩
        refine ⟨by (refine ⟨?_, ?_⟩ <;> omega), ?_⟩
        refine B_L_act_81 ?_
        try dsimp only
        try simp only [tma, tda]
        refine ⟨⟨Nat.zero_le _, Nat.zero_le _, Nat.le_of_ble_eq_true rfl⟩, trivial, ?_⟩
        have hs3 := sh_s0 hy (k := 3) (by decide)
        refine K_at hG hs3.1 ⟨by omega, by omega⟩ (fun s s0 s1 => ?_)
        refine af_I0 rfl rfl (by decide) ?_
        try dsimp only
        try simp only [tma, tda]
        refine B_L_act_84 ?_
        try dsimp only
        try simp only [tma, tda]
        refine ⟨by (refine ⟨?_, ?_⟩ <;> omega), ?_⟩
        refine ⟨by (refine ⟨?_, ?_⟩ <;> omega), ?_⟩
        refine ⟨by (refine ⟨?_, ?_⟩ <;> omega), ?_⟩
        refine ⟨⟨Nat.zero_le _, Nat.zero_le _, Nat.le_of_ble_eq_true rfl⟩, trivial, ?_⟩
        have hs6 := sh_s0 hy (k := 6) (by decide)
        refine K_at hG hs6.1 (by decide) (fun h h0 h1 => ?_)
        refine af_I0 rfl rfl (by decide) ?_
        try dsimp only
        try simp only [tma, tda]
        refine B_L_act_98 ?_
        try dsimp only
        try simp only [tma, tda]
        refine KA_shl hG hS hx hy hm hn1 h6 h7 hQ hV (by omega) (by omega) ha (by unfold is8; omega) (by omega) ⟨h0, by omega⟩ 65 J 0 0 (by decide) (by decide) (fun _ _ => rfl) ?_ ?_ (by decide)
        · rw [shP_0 (by unfold bg; omega) (by unfold bg; omega)]; exact hV.l.h
        · rw [shP_0 (by unfold bg; omega) (by unfold bg; omega)]
theorem K_act {G : amG} {J : Nat → Nat → Int} {R : Nat → Nat → Option Nat} {L : Nat → Nat → Int64} {c t : Nat} {Q : amR → amH → Prop} (hG : amG0 G) {sT : List (Nat × Nat)} (hS : LH (SH sT) 362 363 364) {z : Row} {nv : Int} {zs : Nat → Row} {x y m : Int} (hx : 0 ≤ x ∧ x ≤ 2147483647) (hy : 0 ≤ y ∧ y ≤ 2147483647) (hm : 0 ≤ m ∧ m ≤ 14) (hn1 : 1 ≤ nv) (h6 : z 316 ≤ 200) (h7 : z 317 ≤ 200) (hV : LV 0 J J R z nv zs) (hQ : ∀ (J : Nat → Nat → Int) (R : Nat → Nat → Option Nat) (L : Nat → Nat → Int64) (U : List (Nat × Nat)) (c t : Nat) (z' : Row) (nv' : Int) (zs' : Nat → Row), LV 0 J J R z' nv' zs' → z' 316 ≤ z 316 + 5 → z' 317 ≤ z 317 + 1 → 1 ≤ nv' → Q (Sum.inl (some (aI 1))) (J, R, L, SH (sT ++ U), 0, c, t)) : CT G sL_act [aR (some 0), aI m, aI x, aI y, aR (some 361), aR (some 362), aR (some 363), aR (some 364)] (J, R, L, SH sT, 0, c, t) Q := by
  refine CT_of ok_L_act hG (Nat.le_of_ble_eq_true rfl) ?_
  show X G mL_act Q 0 _ [] (J, R, L, SH sT, 0, 10, 640)
  have e : SH sT = SH (sT ++ []) := by rw [List.append_nil]
  rw [e]
  exact KA_act hG hS hx hy hm hn1 h6 h7 hQ hV (by decide) (by decide)
