/-! ===== the law between two calls ===== -/
theorem QWx {sT : List (Nat × Nat)} {Q : amR → amH → Prop} {I : Nat → Nat → Int} {L : Nat → Nat → Int64} {v : Option amV} {z : Row} {n : Int} {zs : Nat → Row} (h : ∀ (J : Nat → Nat → Int) (R' : Nat → Nat → Option Nat) (c t : Nat), (∀ a : Nat, 361 ≤ a → J a = I a) → RK R' → CS J R' z n zs → Q (Sum.inl v) (J, R', L, SH sT, 0, c, t)) : QW sT Q I L 0 (Sum.inl v) z n zs := fun J R' c t j1 _ _ j4 j5 => h J R' c t j1 j4 j5
theorem SH_app (a b : List (Nat × Nat)) : SH (a ++ b) = SH a ++ b := by
  unfold SH
  rw [List.append_assoc]
theorem LH_app {sT U : List (Nat × Nat)} {aT aO aD : Nat} (h : LH (SH sT) aT aO aD) : LH (SH (sT ++ U)) aT aO aD := by
  rw [SH_app]
  exact ⟨ge_at h.1, ge_at h.2.1, ge_at h.2.2.1, ge_at h.2.2.2⟩
theorem LA0 : LA 362 363 364 := by unfold LA; omega
theorem RK_lt {R R' : Nat → Nat → Option Nat} (h : RK R) (r1 : ∀ a : Nat, a < 361 → R' a = R a) : RK R' := by
  obtain ⟨h1, h2, h3, h4, h5, h6, h7, h8⟩ := h
  unfold RP RC RT at *
  refine ⟨by rw [r1 99 (by decide)]; exact h1, fun b hb => ?_, ?_, ?_, ?_, by rw [r1 356 (by decide)]; exact h6, ?_, ?_⟩
  · have hl := wb_ne7 hb
    have hl2 : b ≤ 297 := by rcases hb with q | q | q | q | q | q | q <;> omega
    obtain ⟨⟨q1, q2, q3, q4, q5, q6⟩, q7, q8⟩ := h2 b hb
    refine ⟨⟨?_, ?_, ?_, ?_, ?_, ?_⟩, fun i hi => ?_, fun i hi => ?_⟩
    · rw [r1 _ (by omega)]; exact q1
    · rw [r1 _ (by omega)]; exact q2
    · rw [r1 _ (by omega)]; exact q3
    · rw [r1 _ (by omega)]; exact q4
    · rw [r1 _ (by omega)]; exact q5
    · rw [r1 _ (by omega)]; exact q6
    · rw [r1 _ (by omega)]; exact q7 i hi
    · rw [r1 _ (by omega)]; exact q8 i hi
  · unfold RP; rw [r1 351 (by decide)]; exact h3
  · unfold RP; rw [r1 357 (by decide)]; exact h4
  · unfold RC; rw [r1 350 (by decide)]; exact h5
  · unfold RT; rw [r1 346 (by decide)]; exact h7
  · rw [r1 0 (by decide)]; exact h8
theorem CS_lt {I J : Nat → Nat → Int} {R R' : Nat → Nat → Option Nat} {z : Row} {n : Int} {zs : Nat → Row} (h : CS I R z n zs) (hz : ZF z) (j1 : ∀ a : Nat, a < 361 → J a = I a) (r1 : ∀ a : Nat, a < 361 → R' a = R a) : CS J R' z n zs := by
  obtain ⟨h1, h2, h3, h4, h5, h6⟩ := CS_off h hz (fun c hc => j1 c (by omega))
  refine ⟨h1, h2, h3, h4, ?_, h6⟩
  obtain ⟨s, ⟨s1, s2⟩, h5⟩ := h5
  exact ⟨s, ⟨fun i hi => by rw [r1 100 (by decide)]; exact s1 i hi, s2⟩, h5⟩
/-- the class and the law's rows read as z; the law's cells are as in I0 -/
def LV (N : Nat) (I0 J : Nat → Nat → Int) (R : Nat → Nat → Option Nat) (z : Row) (nv : Int) (zs : Nat → Row) : Prop := (RK R ∧ CS J R z nv zs ∧ ZF z ∧ LZ J 362 363 364 z) ∧ ∀ a : Nat, 361 ≤ a → a < N → J a = I0 a
section LV0
variable {N : Nat} {I0 J J1 : Nat → Nat → Int} {R R1 : Nat → Nat → Option Nat} {z : Row} {nv : Int} {zs : Nat → Row}
theorem LV.k (h : LV N I0 J R z nv zs) : RK R := h.1.1
theorem LV.c (h : LV N I0 J R z nv zs) : CS J R z nv zs := h.1.2.1
theorem LV.f (h : LV N I0 J R z nv zs) : ZF z := h.1.2.2.1
theorem LV.l (h : LV N I0 J R z nv zs) : LZ J 362 363 364 z := h.1.2.2.2
theorem LV.b (h : LV N I0 J R z nv zs) : wfB z := h.1.2.2.1.1.1
theorem LV_cls (h : LV N I0 J R z nv zs) (j1 : ∀ a : Nat, 361 ≤ a → J1 a = J a) (k1 : RK R1) (c1 : CS J1 R1 z nv zs) : LV N I0 J1 R1 z nv zs :=
  ⟨⟨k1, c1, h.f, LZ_off h.l (fun a ha => j1 a (by omega))⟩, fun a h1 h2 => by rw [j1 a h1]; exact h.2 a h1 h2⟩
theorem LV_law (h : LV N I0 J R z nv zs) {M : Nat} (hM : N ≤ M ∧ 365 ≤ M) (j1 : ∀ a : Nat, a < M → J1 a = J a ∧ R1 a = R a) : LV N I0 J1 R1 z nv zs :=
  ⟨⟨RK_lt h.k (fun a ha => (j1 a (by omega)).2), CS_lt h.c h.f (fun a ha => (j1 a (by omega)).1) (fun a ha => (j1 a (by omega)).2), h.f, LZ_off h.l (fun a ha => (j1 a (by omega)).1)⟩, fun a h1 h2 => by rw [(j1 a (by omega)).1]; exact h.2 a h1 h2⟩
end LV0
/-! ===== told: the troops ===== -/
theorem KD_under {G : amG} {Q : amR → amH → Prop} (hG : amG0 G) {sT : List (Nat × Nat)} (hS : LH (SH sT) 362 363 364) {I0 : Nat → Nat → Int} {z : Row} {nv : Int} {zs : Nat → Row} {N : Nat} (hN : N = 361 + sT.length) {x y k f : Int} {J : Nat → Nat → Int} {R : Nat → Nat → Option Nat} {L : Nat → Nat → Int64} {U : List (Nat × Nat)} {c t : Nat} (hV : LV N I0 J R z nv zs) (hk : 0 ≤ k ∧ k < z 98) (hK : ∀ (u j : Int), u = ofN z k (z 195).toNat → X G mL_told Q 60 [some (aR (some 0)), some (aI x), some (aI y), some (aR (some 361)), some (aR (some 362)), some (aR (some 363)), some (aR (some 364)), some (aI f), some (aI k), some (aI u), some (aI j), none, none, none] [] (J, R, L, SH (sT ++ U), 0, c, t)) :
    ∀ (n : Nat) (u j : Int), 0 ≤ j → (z 195 - j < n ∧ j ≤ z 195) → u = ofN z k j.toNat → X G mL_told Q 21 [some (aR (some 0)), some (aI x), some (aI y), some (aR (some 361)), some (aR (some 362)), some (aR (some 363)), some (aR (some 364)), some (aI f), some (aI k), some (aI u), some (aI j), none, none, none] [] (J, R, L, SH (sT ++ U), 0, c, t) := by
  intro n
  induction n with
  | zero =>
    intros
    exfalso; omega
  | succ n ih =>
    intro u j h0 hj hu
    have hZm := hV.l.m
    have hub := ofN_b z k j.toNat
    have hus : ofN z k (j.toNat + 1) = ofN z k j.toNat + (if z (196 + 4 * j.toNat + 1) = k then 1 else 0) := rfl
    refine B_L_told_21 ?_
    try dsimp only
    try simp (disch := omega) only [hV.l.d.n, hV.l.d.1.2.2.1, hV.l.t.e0, hV.l.t.e5, hV.l.t.e7, hV.l.o.e1, hV.l.o.e2, hV.l.o.e3]
    refine ⟨_, by first | exact (LH_app hS).2.1 | exact (LH_app hS).2.2.1 | exact (LH_app hS).2.2.2 | exact (LH_app hS).1, ⟨by omega, by omega⟩, ?_⟩
    try simp (disch := omega) only [hV.l.d.n, hV.l.d.1.2.2.1, hV.l.t.e0, hV.l.t.e5, hV.l.t.e7, hV.l.o.e1, hV.l.o.e2, hV.l.o.e3]
    refine ⟨fun c27_0 => ?_, fun c27_0 => ?_⟩
    · refine hK u j ?_
      rw [hu]
      congr 1
      omega
    · refine ⟨by (refine ⟨?_, ?_⟩ <;> omega), ?_⟩
      refine ⟨by (refine ⟨?_, ?_⟩ <;> omega), ?_⟩
      refine ⟨_, by first | exact (LH_app hS).2.1 | exact (LH_app hS).2.2.1 | exact (LH_app hS).2.2.2 | exact (LH_app hS).1, ⟨by omega, by omega⟩, ?_⟩
      try simp (disch := omega) only [hV.l.d.n, hV.l.d.1.2.2.1, hV.l.t.e0, hV.l.t.e5, hV.l.t.e7, hV.l.o.e1, hV.l.o.e2, hV.l.o.e3]
      refine ⟨fun c43_0 => ?_, fun c43_0 => ?_⟩
      · refine B_L_told_50 ?_
        try dsimp only
        try simp (disch := omega) only [hV.l.d.n, hV.l.d.1.2.2.1, hV.l.t.e0, hV.l.t.e5, hV.l.t.e7, hV.l.o.e1, hV.l.o.e2, hV.l.o.e3]
        refine B_L_told_51 ?_
        try dsimp only
        try simp (disch := omega) only [hV.l.d.n, hV.l.d.1.2.2.1, hV.l.t.e0, hV.l.t.e5, hV.l.t.e7, hV.l.o.e1, hV.l.o.e2, hV.l.o.e3]
        refine ⟨by (refine ⟨?_, ?_⟩ <;> omega), ?_⟩
        refine ⟨by (refine ⟨?_, ?_⟩ <;> omega), ?_⟩
        refine ih _ (j + 1) (by omega) (by omega) ?_
        rw [show (j + 1).toNat = j.toNat + 1 by omega, hus, hu]
        first
          | (rw [if_pos (by omega)])
          | (rw [if_neg (by omega)])
      · refine B_L_told_51 ?_
        try dsimp only
        try simp (disch := omega) only [hV.l.d.n, hV.l.d.1.2.2.1, hV.l.t.e0, hV.l.t.e5, hV.l.t.e7, hV.l.o.e1, hV.l.o.e2, hV.l.o.e3]
        refine ⟨by (refine ⟨?_, ?_⟩ <;> omega), ?_⟩
        refine ⟨by (refine ⟨?_, ?_⟩ <;> omega), ?_⟩
        refine ih _ (j + 1) (by omega) (by omega) ?_
        rw [show (j + 1).toNat = j.toNat + 1 by omega, hus, hu]
        first
          | (rw [if_pos (by omega)])
          | (rw [if_neg (by omega)])
theorem KD_fig {G : amG} {Q : amR → amH → Prop} (hG : amG0 G) {sT : List (Nat × Nat)} (hS : LH (SH sT) 362 363 364) {I0 : Nat → Nat → Int} {z : Row} {nv : Int} {zs : Nat → Row} {N : Nat} (hN : N = 361 + sT.length) {x y k f u : Int} {L : Nat → Nat → Int64} {U : List (Nat × Nat)} (hk : 0 ≤ k ∧ k < z 98) (hu : u = ofN z k (z 195).toNat) {c0 t0 : Nat} (hK : ∀ (J : Nat → Nat → Int) (R : Nat → Nat → Option Nat) (c t : Nat) (i : Int), LV N I0 J R z nv zs → c0 ≤ c → t0 ≤ t → X G mL_told Q 162 [some (aR (some 0)), some (aI x), some (aI y), some (aR (some 361)), some (aR (some 362)), some (aR (some 363)), some (aR (some 364)), some (aI f), some (aI k), some (aI u), some (aI i), none, none, none] [] (J, R, L, SH (sT ++ U), 0, c, t)) :
    ∀ (n : Nat) (J : Nat → Nat → Int) (R : Nat → Nat → Option Nat) (c t : Nat) (i : Int), 0 ≤ i → (9 - i < n ∧ i ≤ 9) → LV N I0 J R z nv zs → c0 + 2 * (9 - i.toNat) ≤ c → t0 + 12 * (9 - i.toNat) ≤ t → X G mL_told Q 63 [some (aR (some 0)), some (aI x), some (aI y), some (aR (some 361)), some (aR (some 362)), some (aR (some 363)), some (aR (some 364)), some (aI f), some (aI k), some (aI u), some (aI i), none, none, none] [] (J, R, L, SH (sT ++ U), 0, c, t) := by
  intro n
  induction n with
  | zero =>
    intros
    exfalso; omega
  | succ n ih =>
    intro J R c t i h0 hi hV hc ht
    have hZn := hV.l.n
    refine B_L_told_63 ?_
    try dsimp only
    try simp (disch := omega) only [hV.l.d.n, hV.l.d.1.2.2.1, hV.l.t.e0, hV.l.t.e5, hV.l.t.e7, hV.l.o.e1, hV.l.o.e2, hV.l.o.e3]
    refine ⟨fun c67_0 => ?_, fun c67_0 => ?_⟩
    · exact hK J R c t i hV (by omega) (by omega)
    · refine ⟨⟨by omega, by omega, Nat.le_of_ble_eq_true rfl⟩, so0, ?_⟩
      refine D_troop hG hV.k hV.c hV.f (fun q => absurd hk q) (fun q => absurd ⟨h0, by omega⟩ q.2) (fun _ => QWx (fun J1 R1 c1 t1 j1 hRK1 hC1 => ?_))
      have hV1 := LV_cls hV j1 hRK1 hC1
      clear hV
      have hV := hV1
      clear hV1
      refine af_I (cc := 2) (tt := 12) rfl rfl (by decide) ?_
      try dsimp only
      try simp (disch := omega) only [hV.l.d.n, hV.l.d.1.2.2.1, hV.l.t.e0, hV.l.t.e5, hV.l.t.e7, hV.l.o.e1, hV.l.o.e2, hV.l.o.e3]
      refine B_L_told_78 ?_
      try dsimp only
      try simp (disch := omega) only [hV.l.d.n, hV.l.d.1.2.2.1, hV.l.t.e0, hV.l.t.e5, hV.l.t.e7, hV.l.o.e1, hV.l.o.e2, hV.l.o.e3]
      refine ⟨fun c82_1 => ?_, fun c82_1 => ?_⟩
      · refine B_L_told_90 ?_
        try dsimp only
        try simp (disch := omega) only [hV.l.d.n, hV.l.d.1.2.2.1, hV.l.t.e0, hV.l.t.e5, hV.l.t.e7, hV.l.o.e1, hV.l.o.e2, hV.l.o.e3]
        refine ⟨fun c94_2 => ?_, fun c94_2 => ?_⟩
        · refine B_L_told_111 ?_
          try dsimp only
          try simp (disch := omega) only [hV.l.d.n, hV.l.d.1.2.2.1, hV.l.t.e0, hV.l.t.e5, hV.l.t.e7, hV.l.o.e1, hV.l.o.e2, hV.l.o.e3]
          refine ⟨fun c114_3 => ?_, fun c114_3 => ?_⟩
          · refine B_L_told_123 ?_
            try dsimp only
            try simp (disch := omega) only [hV.l.d.n, hV.l.d.1.2.2.1, hV.l.t.e0, hV.l.t.e5, hV.l.t.e7, hV.l.o.e1, hV.l.o.e2, hV.l.o.e3]
            refine ⟨by (refine ⟨?_, ?_⟩ <;> omega), ?_⟩
            refine ⟨by (refine ⟨?_, ?_⟩ <;> omega), ?_⟩
            refine ⟨_, by first | exact (LH_app hS).2.1 | exact (LH_app hS).2.2.1 | exact (LH_app hS).2.2.2 | exact (LH_app hS).1, ⟨by omega, by omega⟩, ?_⟩
            try simp (disch := omega) only [hV.l.d.n, hV.l.d.1.2.2.1, hV.l.t.e0, hV.l.t.e5, hV.l.t.e7, hV.l.o.e1, hV.l.o.e2, hV.l.o.e3]
            refine ⟨⟨Nat.zero_le _, Nat.zero_le _, Nat.le_of_ble_eq_true rfl⟩, trivial, ?_⟩
            have hcc := (ET_iff.mp hV.l.t k hk.1 hk.2)
            have hrd : J1 362 (8 * k + i).toNat = s8 (tf z k.toNat i.toNat) := by
              rw [show (8 * k + i).toNat = 8 * k.toNat + i.toNat by omega, hcc.1 i.toNat (by omega)]
              exact if_pos (by omega)
            have hin : inL (tf z k.toNat i.toNat) := by
              rcases (by omega : i = 1 ∨ i = 3) with q | q <;> subst q
              · exact hcc.2.1
              · exact hcc.2.2
            rw [hrd]
            refine K_big hG (sm_in hin) ?_
            rw [bg_sm hin]
            refine af_I0 rfl rfl (by decide) ?_
            try dsimp only
            try simp (disch := omega) only [hV.l.d.n, hV.l.d.1.2.2.1, hV.l.t.e0, hV.l.t.e5, hV.l.t.e7, hV.l.o.e1, hV.l.o.e2, hV.l.o.e3]
            refine B_L_told_137 ?_
            try dsimp only
            try simp (disch := omega) only [hV.l.d.n, hV.l.d.1.2.2.1, hV.l.t.e0, hV.l.t.e5, hV.l.t.e7, hV.l.o.e1, hV.l.o.e2, hV.l.o.e3]
            refine B_L_told_151 ?_
            try dsimp only
            have hnx : X G mL_told Q 156 [some (aR (some 0)), some (aI x), some (aI y), some (aR (some 361)), some (aR (some 362)), some (aR (some 363)), some (aR (some 364)), some (aI f), some (aI k), some (aI u), some (aI i), none, none, none] [] (J1, R1, L, SH (sT ++ U), 0, c - 2, t - 12) := by
              refine B_L_told_156 ?_
              try dsimp only
              refine ⟨by (refine ⟨?_, ?_⟩ <;> omega), ?_⟩
              exact ih J1 R1 _ _ (i + 1) (by omega) (by omega) hV (by omega) (by omega)
            refine ⟨fun _ => hnx, fun q => absurd ?_ q⟩
            unfold trN
            first
              | (rw [if_pos (by omega), Int.toNat_of_nonneg hk.1]; exact hu.symm)
              | (rw [if_neg (by omega), if_pos (by omega)]; done)
              | (rw [if_neg (by omega), if_neg (by omega)]; done)
              | (have hcc := (ET_iff.mp hV.l.t k hk.1 hk.2)
                 rw [if_neg (by omega), if_neg (by omega), show (8 * k + i).toNat = 8 * k.toNat + i.toNat by omega, hcc.1 i.toNat (by omega)]
                 exact (if_neg (by omega)).symm)
          · refine ⟨fun c120_3 => ?_, fun c120_3 => ?_⟩
            · refine B_L_told_140 ?_
              try dsimp only
              try simp (disch := omega) only [hV.l.d.n, hV.l.d.1.2.2.1, hV.l.t.e0, hV.l.t.e5, hV.l.t.e7, hV.l.o.e1, hV.l.o.e2, hV.l.o.e3]
              refine ⟨by (refine ⟨?_, ?_⟩ <;> omega), ?_⟩
              refine ⟨by (refine ⟨?_, ?_⟩ <;> omega), ?_⟩
              refine ⟨_, by first | exact (LH_app hS).2.1 | exact (LH_app hS).2.2.1 | exact (LH_app hS).2.2.2 | exact (LH_app hS).1, ⟨by omega, by omega⟩, ?_⟩
              try simp (disch := omega) only [hV.l.d.n, hV.l.d.1.2.2.1, hV.l.t.e0, hV.l.t.e5, hV.l.t.e7, hV.l.o.e1, hV.l.o.e2, hV.l.o.e3]
              refine B_L_told_151 ?_
              try dsimp only
              have hnx : X G mL_told Q 156 [some (aR (some 0)), some (aI x), some (aI y), some (aR (some 361)), some (aR (some 362)), some (aR (some 363)), some (aR (some 364)), some (aI f), some (aI k), some (aI u), some (aI i), none, none, none] [] (J1, R1, L, SH (sT ++ U), 0, c - 2, t - 12) := by
                refine B_L_told_156 ?_
                try dsimp only
                refine ⟨by (refine ⟨?_, ?_⟩ <;> omega), ?_⟩
                exact ih J1 R1 _ _ (i + 1) (by omega) (by omega) hV (by omega) (by omega)
              refine ⟨fun _ => hnx, fun q => absurd ?_ q⟩
              unfold trN
              first
                | (rw [if_pos (by omega), Int.toNat_of_nonneg hk.1]; exact hu.symm)
                | (rw [if_neg (by omega), if_pos (by omega)]; done)
                | (rw [if_neg (by omega), if_neg (by omega)]; done)
                | (have hcc := (ET_iff.mp hV.l.t k hk.1 hk.2)
                   rw [if_neg (by omega), if_neg (by omega), show (8 * k + i).toNat = 8 * k.toNat + i.toNat by omega, hcc.1 i.toNat (by omega)]
                   exact (if_neg (by omega)).symm)
            · refine B_L_told_123 ?_
              try dsimp only
              try simp (disch := omega) only [hV.l.d.n, hV.l.d.1.2.2.1, hV.l.t.e0, hV.l.t.e5, hV.l.t.e7, hV.l.o.e1, hV.l.o.e2, hV.l.o.e3]
              refine ⟨by (refine ⟨?_, ?_⟩ <;> omega), ?_⟩
              refine ⟨by (refine ⟨?_, ?_⟩ <;> omega), ?_⟩
              refine ⟨_, by first | exact (LH_app hS).2.1 | exact (LH_app hS).2.2.1 | exact (LH_app hS).2.2.2 | exact (LH_app hS).1, ⟨by omega, by omega⟩, ?_⟩
              try simp (disch := omega) only [hV.l.d.n, hV.l.d.1.2.2.1, hV.l.t.e0, hV.l.t.e5, hV.l.t.e7, hV.l.o.e1, hV.l.o.e2, hV.l.o.e3]
              refine ⟨⟨Nat.zero_le _, Nat.zero_le _, Nat.le_of_ble_eq_true rfl⟩, trivial, ?_⟩
              have hcc := (ET_iff.mp hV.l.t k hk.1 hk.2)
              have hrd : J1 362 (8 * k + i).toNat = s8 (tf z k.toNat i.toNat) := by
                rw [show (8 * k + i).toNat = 8 * k.toNat + i.toNat by omega, hcc.1 i.toNat (by omega)]
                exact if_pos (by omega)
              have hin : inL (tf z k.toNat i.toNat) := by
                rcases (by omega : i = 1 ∨ i = 3) with q | q <;> subst q
                · exact hcc.2.1
                · exact hcc.2.2
              rw [hrd]
              refine K_big hG (sm_in hin) ?_
              rw [bg_sm hin]
              refine af_I0 rfl rfl (by decide) ?_
              try dsimp only
              try simp (disch := omega) only [hV.l.d.n, hV.l.d.1.2.2.1, hV.l.t.e0, hV.l.t.e5, hV.l.t.e7, hV.l.o.e1, hV.l.o.e2, hV.l.o.e3]
              refine B_L_told_137 ?_
              try dsimp only
              try simp (disch := omega) only [hV.l.d.n, hV.l.d.1.2.2.1, hV.l.t.e0, hV.l.t.e5, hV.l.t.e7, hV.l.o.e1, hV.l.o.e2, hV.l.o.e3]
              refine B_L_told_151 ?_
              try dsimp only
              have hnx : X G mL_told Q 156 [some (aR (some 0)), some (aI x), some (aI y), some (aR (some 361)), some (aR (some 362)), some (aR (some 363)), some (aR (some 364)), some (aI f), some (aI k), some (aI u), some (aI i), none, none, none] [] (J1, R1, L, SH (sT ++ U), 0, c - 2, t - 12) := by
                refine B_L_told_156 ?_
                try dsimp only
                refine ⟨by (refine ⟨?_, ?_⟩ <;> omega), ?_⟩
                exact ih J1 R1 _ _ (i + 1) (by omega) (by omega) hV (by omega) (by omega)
              refine ⟨fun _ => hnx, fun q => absurd ?_ q⟩
              unfold trN
              first
                | (rw [if_pos (by omega), Int.toNat_of_nonneg hk.1]; exact hu.symm)
                | (rw [if_neg (by omega), if_pos (by omega)]; done)
                | (rw [if_neg (by omega), if_neg (by omega)]; done)
                | (have hcc := (ET_iff.mp hV.l.t k hk.1 hk.2)
                   rw [if_neg (by omega), if_neg (by omega), show (8 * k + i).toNat = 8 * k.toNat + i.toNat by omega, hcc.1 i.toNat (by omega)]
                   exact (if_neg (by omega)).symm)
        · refine ⟨by (refine ⟨?_, ?_⟩ <;> omega), ?_⟩
          refine ⟨by (refine ⟨?_, ?_⟩ <;> omega), ?_⟩
          refine ⟨_, by first | exact (LH_app hS).2.1 | exact (LH_app hS).2.2.1 | exact (LH_app hS).2.2.2 | exact (LH_app hS).1, ⟨by omega, by omega⟩, ?_⟩
          try simp (disch := omega) only [hV.l.d.n, hV.l.d.1.2.2.1, hV.l.t.e0, hV.l.t.e5, hV.l.t.e7, hV.l.o.e1, hV.l.o.e2, hV.l.o.e3]
          refine B_L_told_151 ?_
          try dsimp only
          have hnx : X G mL_told Q 156 [some (aR (some 0)), some (aI x), some (aI y), some (aR (some 361)), some (aR (some 362)), some (aR (some 363)), some (aR (some 364)), some (aI f), some (aI k), some (aI u), some (aI i), none, none, none] [] (J1, R1, L, SH (sT ++ U), 0, c - 2, t - 12) := by
            refine B_L_told_156 ?_
            try dsimp only
            refine ⟨by (refine ⟨?_, ?_⟩ <;> omega), ?_⟩
            exact ih J1 R1 _ _ (i + 1) (by omega) (by omega) hV (by omega) (by omega)
          refine ⟨fun _ => hnx, fun q => absurd ?_ q⟩
          unfold trN
          first
            | (rw [if_pos (by omega), Int.toNat_of_nonneg hk.1]; exact hu.symm)
            | (rw [if_neg (by omega), if_pos (by omega)]; done)
            | (rw [if_neg (by omega), if_neg (by omega)]; done)
            | (have hcc := (ET_iff.mp hV.l.t k hk.1 hk.2)
               rw [if_neg (by omega), if_neg (by omega), show (8 * k + i).toNat = 8 * k.toNat + i.toNat by omega, hcc.1 i.toNat (by omega)]
               exact (if_neg (by omega)).symm)
      · refine B_L_told_151 ?_
        try dsimp only
        have hnx : X G mL_told Q 156 [some (aR (some 0)), some (aI x), some (aI y), some (aR (some 361)), some (aR (some 362)), some (aR (some 363)), some (aR (some 364)), some (aI f), some (aI k), some (aI u), some (aI i), none, none, none] [] (J1, R1, L, SH (sT ++ U), 0, c - 2, t - 12) := by
          refine B_L_told_156 ?_
          try dsimp only
          refine ⟨by (refine ⟨?_, ?_⟩ <;> omega), ?_⟩
          exact ih J1 R1 _ _ (i + 1) (by omega) (by omega) hV (by omega) (by omega)
        refine ⟨fun _ => hnx, fun q => absurd ?_ q⟩
        unfold trN
        first
          | (rw [if_pos (by omega), Int.toNat_of_nonneg hk.1]; exact hu.symm)
          | (rw [if_neg (by omega), if_pos (by omega)]; done)
          | (rw [if_neg (by omega), if_neg (by omega)]; done)
          | (have hcc := (ET_iff.mp hV.l.t k hk.1 hk.2)
             rw [if_neg (by omega), if_neg (by omega), show (8 * k + i).toNat = 8 * k.toNat + i.toNat by omega, hcc.1 i.toNat (by omega)]
             exact (if_neg (by omega)).symm)
theorem KD_troops {G : amG} {Q : amR → amH → Prop} (hG : amG0 G) {sT : List (Nat × Nat)} (hS : LH (SH sT) 362 363 364) {I0 : Nat → Nat → Int} {z : Row} {nv : Int} {zs : Nat → Row} {N : Nat} (hN : N = 361 + sT.length) {x y : Int} {c0 t0 : Nat} (hK : ∀ (J : Nat → Nat → Int) (R : Nat → Nat → Option Nat) (L : Nat → Nat → Int64) (U : List (Nat × Nat)) (c t : Nat) (k : Int) (o9 o10 : Option amV), LV N I0 J R z nv zs → c0 ≤ c → t0 ≤ t → X G mL_told Q 204 [some (aR (some 0)), some (aI x), some (aI y), some (aR (some 361)), some (aR (some 362)), some (aR (some 363)), some (aR (some 364)), some (aI (fiN z (z 98).toNat)), some (aI k), o9, o10, none, none, none] [] (J, R, L, SH (sT ++ U), 0, c, t)) :
    ∀ (n : Nat) (J : Nat → Nat → Int) (R : Nat → Nat → Option Nat) (L : Nat → Nat → Int64) (U : List (Nat × Nat)) (c t : Nat) (k : Int) (o9 o10 : Option amV), 0 ≤ k → (z 98 - k < n ∧ k ≤ z 98) → LV N I0 J R z nv zs → c0 + 20 * (z 98 - k).toNat ≤ c → t0 + 180 * (z 98 - k).toNat ≤ t → X G mL_told Q 6 [some (aR (some 0)), some (aI x), some (aI y), some (aR (some 361)), some (aR (some 362)), some (aR (some 363)), some (aR (some 364)), some (aI (fiN z k.toNat)), some (aI k), o9, o10, none, none, none] [] (J, R, L, SH (sT ++ U), 0, c, t) := by
  intro n
  induction n with
  | zero =>
    intros
    exfalso; omega
  | succ n ih =>
    intro J R L U c t k o9 o10 h0 hk hV hc ht
    have hZn := hV.l.n
    have hZm := hV.l.m
    have hfb := fiN_b hV.b.2.2.1 k.toNat (by omega)
    have hfs : fiN z (k.toNat + 1) = fiN z k.toNat + tf z k.toNat 5 := rfl
    have ho0 := hV.f.1.2.1.1.1
    refine B_L_told_6 ?_
    try dsimp only
    try simp (disch := omega) only [hV.l.d.n, hV.l.d.1.2.2.1, hV.l.t.e0, hV.l.t.e5, hV.l.t.e7, hV.l.o.e1, hV.l.o.e2, hV.l.o.e3]
    refine ⟨_, by first | exact (LH_app hS).2.1 | exact (LH_app hS).2.2.1 | exact (LH_app hS).2.2.2 | exact (LH_app hS).1, ⟨by omega, by omega⟩, ?_⟩
    try simp (disch := omega) only [hV.l.d.n, hV.l.d.1.2.2.1, hV.l.t.e0, hV.l.t.e5, hV.l.t.e7, hV.l.o.e1, hV.l.o.e2, hV.l.o.e3]
    refine ⟨fun c12_0 => ?_, fun c12_0 => ?_⟩
    · have e : k.toNat = (z 98).toNat := by omega
      rw [e]
      exact hK J R L U c t k _ _ hV (by omega) (by omega)
    · have hlt : k < z 98 := by omega
      have hwk := hV.b.t h0 hlt
      unfold wfT1 at hwk
      refine KD_under hG hS hN hV ⟨h0, hlt⟩ (fun u j hu => ?_) 13 0 0 (by decide) (by omega) rfl
      refine B_L_told_60 ?_
      try dsimp only
      refine KD_fig hG hS hN (c0 := c0 + 20 * (z 98 - k).toNat - 18) (t0 := t0 + 180 * (z 98 - k).toNat - 108) ⟨h0, hlt⟩ hu (fun J R c t i hV hc ht => ?_) 10 J R c t 0 (by decide) (by decide) hV (by omega) (by omega)
      refine B_L_told_162 ?_
      try dsimp only
      try simp (disch := omega) only [hV.l.d.n, hV.l.d.1.2.2.1, hV.l.t.e0, hV.l.t.e5, hV.l.t.e7, hV.l.o.e1, hV.l.o.e2, hV.l.o.e3]
      refine ⟨⟨by omega, by omega, Nat.le_of_ble_eq_true rfl⟩, so0, ?_⟩
      refine D_why hG hV.k hV.c hV.f (fun q => absurd ⟨h0, hlt⟩ q) (fun _ => QWx (fun J1 R1 c1 t1 j1 hRK1 hC1 => ?_))
      have hV1 := LV_cls hV j1 hRK1 hC1
      clear hV
      have hV := hV1
      clear hV1
      refine af_I (cc := 1) (tt := 6) rfl rfl (by decide) ?_
      try dsimp only
      try simp (disch := omega) only [hV.l.d.n, hV.l.d.1.2.2.1, hV.l.t.e0, hV.l.t.e5, hV.l.t.e7, hV.l.o.e1, hV.l.o.e2, hV.l.o.e3]
      refine B_L_told_168 ?_
      try dsimp only
      try simp (disch := omega) only [hV.l.d.n, hV.l.d.1.2.2.1, hV.l.t.e0, hV.l.t.e5, hV.l.t.e7, hV.l.o.e1, hV.l.o.e2, hV.l.o.e3]
      refine ⟨⟨by omega, by omega, Nat.le_of_ble_eq_true rfl⟩, trivial, ?_⟩
      refine K_why hG (LH_app hS).1 (LH_app hS).2.1 (LH_app hS).2.2.2 hV.l.t hV.l.d hV.l.n hV.b hV.l.h ⟨by decide, by decide⟩ hZm ⟨h0, hlt⟩ (fun U2 J2 R2 L2 c2 t2 hfr => ?_)
      have hle : N ≤ (SH (sT ++ U)).length ∧ 365 ≤ (SH (sT ++ U)).length := by
        have h4 := ge_lt (LH_app (U := U) hS).2.2.2
        have e1 := SH_len (sT ++ U)
        rw [List.length_append] at e1
        omega
      have hV2 := LV_law hV hle hfr
      clear hV
      have hV := hV2
      clear hV2
      rw [← SH_app, List.append_assoc]
      refine af_I (cc := 1) (tt := 64) rfl rfl (by decide) ?_
      try dsimp only
      try simp (disch := omega) only [hV.l.d.n, hV.l.d.1.2.2.1, hV.l.t.e0, hV.l.t.e5, hV.l.t.e7, hV.l.o.e1, hV.l.o.e2, hV.l.o.e3]
      refine B_L_told_178 ?_
      try dsimp only
      try simp (disch := omega) only [hV.l.d.n, hV.l.d.1.2.2.1, hV.l.t.e0, hV.l.t.e5, hV.l.t.e7, hV.l.o.e1, hV.l.o.e2, hV.l.o.e3]
      refine ⟨fun c178_2 => ?_, fun c178_2 => ?_⟩
      · refine B_L_told_183 ?_
        try dsimp only
        try simp (disch := omega) only [hV.l.d.n, hV.l.d.1.2.2.1, hV.l.t.e0, hV.l.t.e5, hV.l.t.e7, hV.l.o.e1, hV.l.o.e2, hV.l.o.e3]
        refine ⟨by (refine ⟨?_, ?_⟩ <;> omega), ?_⟩
        refine ⟨by (refine ⟨?_, ?_⟩ <;> omega), ?_⟩
        refine ⟨_, by first | exact (LH_app hS).2.1 | exact (LH_app hS).2.2.1 | exact (LH_app hS).2.2.2 | exact (LH_app hS).1, ⟨by omega, by omega⟩, ?_⟩
        try simp (disch := omega) only [hV.l.d.n, hV.l.d.1.2.2.1, hV.l.t.e0, hV.l.t.e5, hV.l.t.e7, hV.l.o.e1, hV.l.o.e2, hV.l.o.e3]
        refine ⟨by (refine ⟨?_, ?_⟩ <;> omega), ?_⟩
        refine ⟨by (refine ⟨?_, ?_⟩ <;> omega), ?_⟩
        rw [show fiN z k.toNat + tf z k.toNat 5 = fiN z (k + 1).toNat by rw [show (k + 1).toNat = k.toNat + 1 by omega, hfs]]
        exact ih J2 R2 L2 (U ++ U2) _ _ (k + 1) _ _ (by omega) (by omega) hV (by omega) (by omega)
      · refine ⟨by first | exact Or.inl rfl | exact Or.inr rfl | trivial | exact Or.inl trivial | exact Or.inr trivial | omega, ?_⟩
        first
          | exact absurd True.intro (by assumption)
          | exact absurd rfl (by assumption)
          | (exfalso; omega)
