variable {sT : List (Nat × Nat)}
/-! ===== the class as a whole ===== -/
def RK (R : Nat → Nat → Option Nat) : Prop := R 99 0 = some 100 ∧ (∀ b : Nat, wb b → RW R b) ∧ RP R 351 ∧ RP R 357 ∧ RC R ∧ R 356 0 = some 357 ∧ RT R ∧ (R 0 0 = some 1 ∧ R 0 1 = some 50 ∧ R 0 2 = some 99 ∧ R 0 3 = some 346 ∧ R 0 4 = some 350 ∧ R 0 5 = some 356)
theorem RK.hi {R : Nat → Nat → Option Nat} (h : RK R) : R 99 0 = some 100 := h.1
theorem RK.w {R : Nat → Nat → Option Nat} (h : RK R) {b : Nat} (hb : wb b) : RW R b := h.2.1 b hb
theorem RK.p1 {R : Nat → Nat → Option Nat} (h : RK R) : RP R 351 := h.2.2.1
theorem RK.p2 {R : Nat → Nat → Option Nat} (h : RK R) : RP R 357 := h.2.2.2.1
theorem RK.c {R : Nat → Nat → Option Nat} (h : RK R) : RC R := h.2.2.2.2.1
theorem RK.a {R : Nat → Nat → Option Nat} (h : RK R) : R 356 0 = some 357 := h.2.2.2.2.2.1
theorem RK.t {R : Nat → Nat → Option Nat} (h : RK R) : RT R := h.2.2.2.2.2.2.1
theorem RK.x {R : Nat → Nat → Option Nat} (h : RK R) : R 0 0 = some 1 ∧ R 0 1 = some 50 ∧ R 0 2 = some 99 ∧ R 0 3 = some 346 ∧ R 0 4 = some 350 ∧ R 0 5 = some 356 := h.2.2.2.2.2.2.2
theorem RK_100 {R R' : Nat → Nat → Option Nat} (h : RK R) (r1 : ∀ a : Nat, a ≠ 100 → R' a = R a) : RK R' := by
  obtain ⟨h1, h2, h3, h4, h5, h6, h7, h8⟩ := h
  unfold RP RC RT at *
  refine ⟨by rw [r1 99 (by decide)]; exact h1, fun b hb => ?_, ?_, ?_, ?_, by rw [r1 356 (by decide)]; exact h6, ?_, ?_⟩
  · have hl := wb_ne7 hb
    obtain ⟨⟨q1, q2, q3, q4, q5, q6⟩, q7, q8⟩ := h2 b hb
    refine ⟨⟨?_, ?_, ?_, ?_, ?_, ?_⟩, fun i hi => ?_, fun i hi => ?_⟩
    · rw [r1 _ (by omega)]; exact q1
    · rw [r1 _ (by omega)]; exact q2
    · rw [r1 _ (by omega)]; exact q3
    · rw [r1 _ (by omega)]; exact q4
    · rw [r1 _ (by omega)]; exact q5
    · rw [r1 _ (by omega)]; exact q6
    · rw [r1 _ (by omega)]; exact q7 i hi
    · rw [r1 _ (by omega)]; exact q8 i hi
  · unfold RP; rw [r1 351 (by decide)]; exact h3
  · unfold RP; rw [r1 357 (by decide)]; exact h4
  · unfold RC; rw [r1 350 (by decide)]; exact h5
  · unfold RT; rw [r1 346 (by decide)]; exact h7
  · rw [r1 0 (by decide)]; exact h8
/-- the class reads as the row z, with n saved rows -/
def CS (I : Nat → Nat → Int) (R : Nat → Nat → Option Nat) (z : Row) (n : Int) (zs : Nat → Row) : Prop := WV I 1 z ∧ WO I 1 z ∧ I 99 1 = n ∧ (0 ≤ n ∧ n ≤ 5) ∧ SV I R n zs ∧ ∀ t : Nat, t < 96 → I 354 t = 0
/-- a row that may stand between two calls -/
def ZF (z : Row) : Prop := WF z ∧ z 316 ≤ 1000 ∧ z 317 ≤ 80000
theorem SV_off {I J : Nat → Nat → Int} {R : Nat → Nat → Option Nat} {n : Int} {zs : Nat → Row} (h : SV I R n zs) (hn : n ≤ 5) (he : ∀ c : Nat, 101 ≤ c → c < 346 → J c = I c) : SV J R n zs := by
  obtain ⟨s, hs, h⟩ := h
  refine ⟨s, hs, fun i hi => ?_⟩
  obtain ⟨a1, a2, a3, a4⟩ := h i hi
  have hl := hb_le (hs.1 i (by omega)).2
  exact ⟨WV_off a1 a3.2 (fun a u1 u2 => he a (by omega) (by omega)), WO_off a2 a4 (fun a u1 u2 => he a (by omega) (by omega)), a3, a4⟩
theorem CS_off {I J : Nat → Nat → Int} {R : Nat → Nat → Option Nat} {z : Row} {n : Int} {zs : Nat → Row} (h : CS I R z n zs) (hz : ZF z) (he : ∀ c : Nat, c < 50 ∨ (99 ≤ c ∧ c < 346) ∨ c = 354 → J c = I c) : CS J R z n zs := by
  obtain ⟨h1, h2, h3, h4, h5, h6⟩ := h
  refine ⟨WV_off h1 hz.1.1.2.1.2 (fun a u1 u2 => he a (by omega)), WO_off h2 hz.1.2.1.1 (fun a u1 u2 => he a (by omega)), by rw [he 99 (by omega)]; exact h3, h4, SV_off h5 h4.2 (fun c u1 u2 => he c (by omega)), fun t ht => by rw [he 354 (by omega)]; exact h6 t ht⟩
/-- behind an exception that nobody catches -/
theorem af_X {M : amM} {Q : amR → amH → Prop} {S : amS} {pc : Nat} {K : amK1} {J : amJ1} {ls : List (Option amV)} {r : List amV} {h : amH} {j : Nat} {I1 : Nat → Nat → Int} {R1 : Nat → Nat → Option Nat} {L1 : Nat → Nat → Int64} {S1 : List (Nat × Nat)} {x1 c1 t1 : Nat} (h0 : sh M.1 = []) (hk : ∀ c2 t2 : Nat, Q (Sum.inr j) (I1, R1, L1, S1, x1, c2, t2)) : amAf M Q S pc K J ls r h (Sum.inr j) (I1, R1, L1, S1, x1, c1, t1) := by
  show (match sh M.1 with
    | [] => Q (Sum.inr j) _
    | _ => _)
  rw [h0]
  exact hk _ _
theorem so0 : (SH sT)[0]? = some (9, 0) := SH_at (by decide +kernel)
theorem D_needCell {G : amG} {I : Nat → Nat → Int} {R : Nat → Nat → Option Nat} {L : Nat → Nat → Int64} {x c t : Nat} {Q : amR → amH → Prop} (hG : amG0 G) {v : Int} (hT : ¬ (0 ≤ v ∧ v ≤ 95) → ∀ c2 t2 : Nat, Q (Sum.inr 0) (I, R, L, (SH sT), x + 1, c2, t2)) (hQ : (0 ≤ v ∧ v ≤ 95) → ∀ c2 t2 : Nat, Q (Sum.inl none) (I, R, L, (SH sT), x, c2, t2)) : CT G sX9_needCell [aI v] (I, R, L, (SH sT), x, c, t) Q := by
  refine CT_of ok_X9_needCell hG (Nat.le_of_ble_eq_true rfl) ?_
  show X G mX9_needCell Q 0 _ [] (I, R, L, (SH sT), x, 1, 6)
  refine B_X9_needCell_0 ?_
  try dsimp only
  refine ⟨fun c1_0 => ?_, fun c1_0 => ?_⟩
  · refine B_X9_needCell_10 ?_
    try dsimp only
    refine ⟨⟨by omega, by omega, Nat.le_of_ble_eq_true rfl⟩, ?_⟩
    exact hT (by omega) _ _
  · refine ⟨fun c7_0 => ?_, fun c7_0 => ?_⟩
    · refine B_X9_needCell_21 ?_
      try dsimp only
      refine ⟨rfl, ?_⟩
      exact hQ (by omega) _ _
    · refine B_X9_needCell_10 ?_
      try dsimp only
      refine ⟨⟨by omega, by omega, Nat.le_of_ble_eq_true rfl⟩, ?_⟩
      exact hT (by omega) _ _
theorem D_needSide {G : amG} {I : Nat → Nat → Int} {R : Nat → Nat → Option Nat} {L : Nat → Nat → Int64} {x c t : Nat} {Q : amR → amH → Prop} (hG : amG0 G) {v : Int} (hT : ¬ (0 ≤ v ∧ v ≤ 1) → ∀ c2 t2 : Nat, Q (Sum.inr 0) (I, R, L, (SH sT), x + 1, c2, t2)) (hQ : (0 ≤ v ∧ v ≤ 1) → ∀ c2 t2 : Nat, Q (Sum.inl none) (I, R, L, (SH sT), x, c2, t2)) : CT G sX9_needSide [aI v] (I, R, L, (SH sT), x, c, t) Q := by
  refine CT_of ok_X9_needSide hG (Nat.le_of_ble_eq_true rfl) ?_
  show X G mX9_needSide Q 0 _ [] (I, R, L, (SH sT), x, 1, 6)
  refine B_X9_needSide_0 ?_
  try dsimp only
  refine ⟨fun c1_0 => ?_, fun c1_0 => ?_⟩
  · refine B_X9_needSide_9 ?_
    try dsimp only
    refine ⟨⟨by omega, by omega, Nat.le_of_ble_eq_true rfl⟩, ?_⟩
    exact hT (by omega) _ _
  · refine ⟨fun c6_0 => ?_, fun c6_0 => ?_⟩
    · refine B_X9_needSide_20 ?_
      try dsimp only
      refine ⟨rfl, ?_⟩
      exact hQ (by omega) _ _
    · refine B_X9_needSide_9 ?_
      try dsimp only
      refine ⟨⟨by omega, by omega, Nat.le_of_ble_eq_true rfl⟩, ?_⟩
      exact hT (by omega) _ _
theorem D_needTurns {G : amG} {I : Nat → Nat → Int} {R : Nat → Nat → Option Nat} {L : Nat → Nat → Int64} {x c t : Nat} {Q : amR → amH → Prop} (hG : amG0 G) {v : Int} (hT : ¬ (1 ≤ v ∧ v ≤ 50) → ∀ c2 t2 : Nat, Q (Sum.inr 1) (I, R, L, (SH sT), x + 1, c2, t2)) (hQ : (1 ≤ v ∧ v ≤ 50) → ∀ c2 t2 : Nat, Q (Sum.inl none) (I, R, L, (SH sT), x, c2, t2)) : CT G sX9_needTurns [aI v] (I, R, L, (SH sT), x, c, t) Q := by
  refine CT_of ok_X9_needTurns hG (Nat.le_of_ble_eq_true rfl) ?_
  show X G mX9_needTurns Q 0 _ [] (I, R, L, (SH sT), x, 1, 6)
  refine B_X9_needTurns_0 ?_
  try dsimp only
  refine ⟨fun c2_0 => ?_, fun c2_0 => ?_⟩
  · refine B_X9_needTurns_11 ?_
    try dsimp only
    refine ⟨⟨by omega, by omega, Nat.le_of_ble_eq_true rfl⟩, ?_⟩
    exact hT (by omega) _ _
  · refine ⟨fun c8_0 => ?_, fun c8_0 => ?_⟩
    · refine B_X9_needTurns_22 ?_
      try dsimp only
      refine ⟨rfl, ?_⟩
      exact hQ (by omega) _ _
    · refine B_X9_needTurns_11 ?_
      try dsimp only
      refine ⟨⟨by omega, by omega, Nat.le_of_ble_eq_true rfl⟩, ?_⟩
      exact hT (by omega) _ _
theorem D_needFigure {G : amG} {I : Nat → Nat → Int} {R : Nat → Nat → Option Nat} {L : Nat → Nat → Int64} {x c t : Nat} {Q : amR → amH → Prop} (hG : amG0 G) {v w : Int} (hT : ¬ (0 ≤ v ∧ v < w) → ∀ c2 t2 : Nat, Q (Sum.inr 1) (I, R, L, (SH sT), x + 1, c2, t2)) (hQ : (0 ≤ v ∧ v < w) → ∀ c2 t2 : Nat, Q (Sum.inl none) (I, R, L, (SH sT), x, c2, t2)) : CT G sX9_needFigure [aI v, aI w] (I, R, L, (SH sT), x, c, t) Q := by
  refine CT_of ok_X9_needFigure hG (Nat.le_of_ble_eq_true rfl) ?_
  show X G mX9_needFigure Q 0 _ [] (I, R, L, (SH sT), x, 1, 6)
  refine B_X9_needFigure_0 ?_
  try dsimp only
  refine ⟨fun c1_0 => ?_, fun c1_0 => ?_⟩
  · refine B_X9_needFigure_9 ?_
    try dsimp only
    refine ⟨⟨by omega, by omega, Nat.le_of_ble_eq_true rfl⟩, ?_⟩
    exact hT (by omega) _ _
  · refine ⟨fun c6_0 => ?_, fun c6_0 => ?_⟩
    · refine B_X9_needFigure_20 ?_
      try dsimp only
      refine ⟨rfl, ?_⟩
      exact hQ (by omega) _ _
    · refine B_X9_needFigure_9 ?_
      try dsimp only
      refine ⟨⟨by omega, by omega, Nat.le_of_ble_eq_true rfl⟩, ?_⟩
      exact hT (by omega) _ _
theorem D_needTroop {G : amG} {I : Nat → Nat → Int} {R : Nat → Nat → Option Nat} {L : Nat → Nat → Int64} {x c t : Nat} {Q : amR → amH → Prop} (hG : amG0 G) (hRK : RK R) {v m : Int} (hm : I 1 3 = m) (hT : ¬ (0 ≤ v ∧ v < m) → ∀ c2 t2 : Nat, Q (Sum.inr 0) (I, R, L, (SH sT), x + 1, c2, t2)) (hQ : (0 ≤ v ∧ v < m) → ∀ c2 t2 : Nat, Q (Sum.inl none) (I, R, L, (SH sT), x, c2, t2)) : CT G sX9_needTroop [aR (some 0), aI v] (I, R, L, (SH sT), x, c, t) Q := by
  refine CT_of ok_X9_needTroop hG (Nat.le_of_ble_eq_true rfl) ?_
  show X G mX9_needTroop Q 0 _ [] (I, R, L, (SH sT), x, 1, 6)
  refine B_X9_needTroop_0 ?_
  try dsimp only
  try simp only [hm]
  refine ⟨fun c1_0 => ?_, fun c1_0 => ?_⟩
  · refine B_X9_needTroop_15 ?_
    try dsimp only
    try simp only [hm]
    refine ⟨⟨by omega, by omega, Nat.le_of_ble_eq_true rfl⟩, ?_⟩
    exact hT (by omega) _ _
  · refine ⟨so0, _, hRK.x.1, ?_⟩
    refine ⟨sw0 w1, ?_⟩
    try simp only [hm]
    refine ⟨fun c12_0 => ?_, fun c12_0 => ?_⟩
    · refine B_X9_needTroop_26 ?_
      try dsimp only
      try simp only [hm]
      refine ⟨rfl, ?_⟩
      exact hQ (by omega) _ _
    · refine B_X9_needTroop_15 ?_
      try dsimp only
      try simp only [hm]
      refine ⟨⟨by omega, by omega, Nat.le_of_ble_eq_true rfl⟩, ?_⟩
      exact hT (by omega) _ _
theorem shZ_98 (z : Row) (a b h : Int) (ha : 0 ≤ a ∧ a ≤ 95) : ∀ n : Nat, a + n ≤ 97 → ∀ {i : Nat}, 97 ≤ i → (shZ z a b h n).1 i = z i := by
  intro n
  induction n with
  | zero => intro _ i _; rfl
  | succ n ih =>
    intro hn i hi
    rw [shZ_s]
    split
    · show uz _ _ _ i = _
      rw [uz_ne _ _ (by omega)]
      exact ih (by omega) hi
    · exact ih (by omega) hi
theorem L_level {G : amG} {I : Nat → Nat → Int} {R : Nat → Nat → Option Nat} {L : Nat → Nat → Int64} {x : Nat} {Q : amR → amH → Prop} (hG : amG0 G) {b : Nat} (hB : wb b) (hRW : RW R b) {z : Row} (hn : z 98 ≤ 12) {u v w : Int} (hu : 0 ≤ u ∧ u ≤ 95) (hv : u - 1 ≤ v ∧ v ≤ 95) (hQ : ∀ J : Nat → Nat → Int, only I J (b + 2) → WV J b (shZ z u v w (v - u + 1).toNat).1 → Q (Sum.inl (some (aI (shZ z u v w (v - u + 1).toNat).2))) (J, R, L, (SH sT), x, 0, 0)) :
    ∀ (n : Nat) (j : Int) (J : Nat → Nat → Int) (l6 : Option amV), (u ≤ j ∧ j ≤ v + 1 ∧ v + 1 - j < n) → only I J (b + 2) → WV J b (shZ z u v w (j - u).toNat).1 → X G mX5_level Q 6 [some (aR (some (b + 1))), some (aI u), some (aI v), some (aI w), some (aI (shZ z u v w (j - u).toNat).2), some (aI j), l6] [] (J, R, L, (SH sT), x, 0, 0) := by
  intro n
  induction n with
  | zero =>
    intros
    exfalso; omega
  | succ n ih =>
    intro j J l6 h1 hJ hW
    have hs := shZ_s z u v w (j - u).toNat
    have hbd := shZ_b z u v w (j - u).toNat
    have h98 : (shZ z u v w (j - u).toNat).1 98 = z 98 := shZ_98 z u v w hu (j - u).toNat (by omega) (by decide)
    have ej : u + ((j - u).toNat : Int) = j := by omega
    rw [ej] at hs
    have hQ' : j = v + 1 → Q (Sum.inl (some (aI (shZ z u v w (j - u).toNat).2))) (J, R, L, (SH sT), x, 0, 0) := fun e => by rw [show j - u = v - u + 1 by omega] at hW ⊢; exact hQ J hJ hW
    generalize shZ z u v w (j - u).toNat = S at *
    have tm1 : u.tmod 12 = u % 12 := Int.tmod_eq_emod_of_nonneg (by omega)
    have tm2 : j.tmod 12 = j % 12 := Int.tmod_eq_emod_of_nonneg (by omega)
    have tm3 : 0 ≤ v → v.tmod 12 = v % 12 ∧ v.tdiv 12 = v / 12 := fun q => ⟨Int.tmod_eq_emod_of_nonneg q, Int.tdiv_eq_ediv_of_nonneg q⟩
    have td1 : u.tdiv 12 = u / 12 := Int.tdiv_eq_ediv_of_nonneg (by omega)
    have td2 : j.tdiv 12 = j / 12 := Int.tdiv_eq_ediv_of_nonneg (by omega)
    refine B_X5_level_6 ?_
    try dsimp only
    try simp (disch := omega) only [wH hW]
    refine ⟨fun c9_0 => ?_, fun c9_0 => ?_⟩
    · refine B_X5_level_76 ?_
      try dsimp only
      try simp (disch := omega) only [wH hW]
      exact hQ' (by omega)
    · have tm3 := tm3 (by omega)
      refine ⟨⟨by decide, by (refine ⟨?_, ?_⟩ <;> omega)⟩, ?_⟩
      refine ⟨⟨by decide, by (refine ⟨?_, ?_⟩ <;> omega)⟩, ?_⟩
      refine ⟨fun c21_0 => ?_, fun c21_0 => ?_⟩
      · refine B_X5_level_40 ?_
        try dsimp only
        try simp (disch := omega) only [wH hW]
        refine B_X5_level_41 ?_
        try dsimp only
        try simp (disch := omega) only [wH hW]
        refine ⟨fun c45_2 => ?_, fun c45_2 => ?_⟩
        · refine B_X5_level_70 ?_
          try dsimp only
          try simp (disch := omega) only [wH hW]
          refine ⟨by (refine ⟨?_, ?_⟩ <;> omega), ?_⟩
          first
            | exact absurd True.intro (by assumption)
            | (have hcond : ¬ (u % 12 ≤ j % 12 ∧ j % 12 ≤ v % 12) := by omega
               have e := fun l6 => ih (j + 1) J l6 (by omega) hJ (by rw [show (j + 1 - u).toNat = (j - u).toNat + 1 by omega, hs, if_neg hcond]; exact hW)
               rw [show (j + 1 - u).toNat = (j - u).toNat + 1 by omega, hs, if_neg hcond] at e
               exact e _)
            | (have hcond : u % 12 ≤ j % 12 ∧ j % 12 ≤ v % 12 := by omega
               have heq : S.1 j.toNat = w := by omega
               have hS : uz S.1 j.toNat w = S.1 := by rw [← heq]; exact uz_self _ _
               have e := fun l6 => ih (j + 1) J l6 (by omega) hJ (by rw [show (j + 1 - u).toNat = (j - u).toNat + 1 by omega, hs, if_pos hcond, hS]; exact hW)
               rw [show (j + 1 - u).toNat = (j - u).toNat + 1 by omega, hs, if_pos hcond, if_pos heq, Int.add_zero S.2] at e
               exact e _)
            | (have hcond : u % 12 ≤ j % 12 ∧ j % 12 ≤ v % 12 := by omega
               have heq : ¬ S.1 j.toNat = w := by omega
               have e := fun l6 => ih (j + 1) (u2 J (b + 2) j.toNat w) l6 (by omega) (only_u2 hJ _ _) (by rw [show (j + 1 - u).toNat = (j - u).toNat + 1 by omega, hs, if_pos hcond]; exact WV_he hW (by omega) w (by omega))
               rw [show (j + 1 - u).toNat = (j - u).toNat + 1 by omega, hs, if_pos hcond, if_neg heq] at e
               exact e _)
        · first
            | (exfalso; omega)
            | exact absurd True.intro (by assumption)
            | (refine ⟨sw1 hB, _, hRW.ht, ?_⟩
               refine ⟨_, sw2 hB, ⟨by omega, by omega⟩, ?_⟩
               try simp (disch := omega) only [wH hW]
               refine ⟨fun c56_2 => ?_, fun c56_2 => ?_⟩
               · refine B_X5_level_70 ?_
                 try dsimp only
                 try simp (disch := omega) only [wH hW]
                 refine ⟨by (refine ⟨?_, ?_⟩ <;> omega), ?_⟩
                 first
                   | exact absurd True.intro (by assumption)
                   | (have hcond : ¬ (u % 12 ≤ j % 12 ∧ j % 12 ≤ v % 12) := by omega
                      have e := fun l6 => ih (j + 1) J l6 (by omega) hJ (by rw [show (j + 1 - u).toNat = (j - u).toNat + 1 by omega, hs, if_neg hcond]; exact hW)
                      rw [show (j + 1 - u).toNat = (j - u).toNat + 1 by omega, hs, if_neg hcond] at e
                      exact e _)
                   | (have hcond : u % 12 ≤ j % 12 ∧ j % 12 ≤ v % 12 := by omega
                      have heq : S.1 j.toNat = w := by omega
                      have hS : uz S.1 j.toNat w = S.1 := by rw [← heq]; exact uz_self _ _
                      have e := fun l6 => ih (j + 1) J l6 (by omega) hJ (by rw [show (j + 1 - u).toNat = (j - u).toNat + 1 by omega, hs, if_pos hcond, hS]; exact hW)
                      rw [show (j + 1 - u).toNat = (j - u).toNat + 1 by omega, hs, if_pos hcond, if_pos heq, Int.add_zero S.2] at e
                      exact e _)
                   | (have hcond : u % 12 ≤ j % 12 ∧ j % 12 ≤ v % 12 := by omega
                      have heq : ¬ S.1 j.toNat = w := by omega
                      have e := fun l6 => ih (j + 1) (u2 J (b + 2) j.toNat w) l6 (by omega) (only_u2 hJ _ _) (by rw [show (j + 1 - u).toNat = (j - u).toNat + 1 by omega, hs, if_pos hcond]; exact WV_he hW (by omega) w (by omega))
                      rw [show (j + 1 - u).toNat = (j - u).toNat + 1 by omega, hs, if_pos hcond, if_neg heq] at e
                      exact e _)
               · refine ⟨sw1 hB, _, hRW.ht, ?_⟩
                 refine ⟨_, sw2 hB, ⟨by omega, by omega⟩, ?_⟩
                 try simp (disch := omega) only [wH hW]
                 refine ⟨by (refine ⟨?_, ?_⟩ <;> omega), ?_⟩
                 refine B_X5_level_70 ?_
                 try dsimp only
                 try simp (disch := omega) only [wH hW]
                 refine ⟨by (refine ⟨?_, ?_⟩ <;> omega), ?_⟩
                 first
                   | exact absurd True.intro (by assumption)
                   | (have hcond : ¬ (u % 12 ≤ j % 12 ∧ j % 12 ≤ v % 12) := by omega
                      have e := fun l6 => ih (j + 1) J l6 (by omega) hJ (by rw [show (j + 1 - u).toNat = (j - u).toNat + 1 by omega, hs, if_neg hcond]; exact hW)
                      rw [show (j + 1 - u).toNat = (j - u).toNat + 1 by omega, hs, if_neg hcond] at e
                      exact e _)
                   | (have hcond : u % 12 ≤ j % 12 ∧ j % 12 ≤ v % 12 := by omega
                      have heq : S.1 j.toNat = w := by omega
                      have hS : uz S.1 j.toNat w = S.1 := by rw [← heq]; exact uz_self _ _
                      have e := fun l6 => ih (j + 1) J l6 (by omega) hJ (by rw [show (j + 1 - u).toNat = (j - u).toNat + 1 by omega, hs, if_pos hcond, hS]; exact hW)
                      rw [show (j + 1 - u).toNat = (j - u).toNat + 1 by omega, hs, if_pos hcond, if_pos heq, Int.add_zero S.2] at e
                      exact e _)
                   | (have hcond : u % 12 ≤ j % 12 ∧ j % 12 ≤ v % 12 := by omega
                      have heq : ¬ S.1 j.toNat = w := by omega
                      have e := fun l6 => ih (j + 1) (u2 J (b + 2) j.toNat w) l6 (by omega) (only_u2 hJ _ _) (by rw [show (j + 1 - u).toNat = (j - u).toNat + 1 by omega, hs, if_pos hcond]; exact WV_he hW (by omega) w (by omega))
                      rw [show (j + 1 - u).toNat = (j - u).toNat + 1 by omega, hs, if_pos hcond, if_neg heq] at e
                      exact e _))
      · refine ⟨⟨by decide, by (refine ⟨?_, ?_⟩ <;> omega)⟩, ?_⟩
        refine ⟨⟨by decide, by (refine ⟨?_, ?_⟩ <;> omega)⟩, ?_⟩
        refine ⟨fun c33_0 => ?_, fun c33_0 => ?_⟩
        · refine B_X5_level_40 ?_
          try dsimp only
          try simp (disch := omega) only [wH hW]
          refine B_X5_level_41 ?_
          try dsimp only
          try simp (disch := omega) only [wH hW]
          refine ⟨fun c45_2 => ?_, fun c45_2 => ?_⟩
          · refine B_X5_level_70 ?_
            try dsimp only
            try simp (disch := omega) only [wH hW]
            refine ⟨by (refine ⟨?_, ?_⟩ <;> omega), ?_⟩
            first
              | exact absurd True.intro (by assumption)
              | (have hcond : ¬ (u % 12 ≤ j % 12 ∧ j % 12 ≤ v % 12) := by omega
                 have e := fun l6 => ih (j + 1) J l6 (by omega) hJ (by rw [show (j + 1 - u).toNat = (j - u).toNat + 1 by omega, hs, if_neg hcond]; exact hW)
                 rw [show (j + 1 - u).toNat = (j - u).toNat + 1 by omega, hs, if_neg hcond] at e
                 exact e _)
              | (have hcond : u % 12 ≤ j % 12 ∧ j % 12 ≤ v % 12 := by omega
                 have heq : S.1 j.toNat = w := by omega
                 have hS : uz S.1 j.toNat w = S.1 := by rw [← heq]; exact uz_self _ _
                 have e := fun l6 => ih (j + 1) J l6 (by omega) hJ (by rw [show (j + 1 - u).toNat = (j - u).toNat + 1 by omega, hs, if_pos hcond, hS]; exact hW)
                 rw [show (j + 1 - u).toNat = (j - u).toNat + 1 by omega, hs, if_pos hcond, if_pos heq, Int.add_zero S.2] at e
                 exact e _)
              | (have hcond : u % 12 ≤ j % 12 ∧ j % 12 ≤ v % 12 := by omega
                 have heq : ¬ S.1 j.toNat = w := by omega
                 have e := fun l6 => ih (j + 1) (u2 J (b + 2) j.toNat w) l6 (by omega) (only_u2 hJ _ _) (by rw [show (j + 1 - u).toNat = (j - u).toNat + 1 by omega, hs, if_pos hcond]; exact WV_he hW (by omega) w (by omega))
                 rw [show (j + 1 - u).toNat = (j - u).toNat + 1 by omega, hs, if_pos hcond, if_neg heq] at e
                 exact e _)
          · first
              | (exfalso; omega)
              | exact absurd True.intro (by assumption)
              | (refine ⟨sw1 hB, _, hRW.ht, ?_⟩
                 refine ⟨_, sw2 hB, ⟨by omega, by omega⟩, ?_⟩
                 try simp (disch := omega) only [wH hW]
                 refine ⟨fun c56_2 => ?_, fun c56_2 => ?_⟩
                 · refine B_X5_level_70 ?_
                   try dsimp only
                   try simp (disch := omega) only [wH hW]
                   refine ⟨by (refine ⟨?_, ?_⟩ <;> omega), ?_⟩
                   first
                     | exact absurd True.intro (by assumption)
                     | (have hcond : ¬ (u % 12 ≤ j % 12 ∧ j % 12 ≤ v % 12) := by omega
                        have e := fun l6 => ih (j + 1) J l6 (by omega) hJ (by rw [show (j + 1 - u).toNat = (j - u).toNat + 1 by omega, hs, if_neg hcond]; exact hW)
                        rw [show (j + 1 - u).toNat = (j - u).toNat + 1 by omega, hs, if_neg hcond] at e
                        exact e _)
                     | (have hcond : u % 12 ≤ j % 12 ∧ j % 12 ≤ v % 12 := by omega
                        have heq : S.1 j.toNat = w := by omega
                        have hS : uz S.1 j.toNat w = S.1 := by rw [← heq]; exact uz_self _ _
                        have e := fun l6 => ih (j + 1) J l6 (by omega) hJ (by rw [show (j + 1 - u).toNat = (j - u).toNat + 1 by omega, hs, if_pos hcond, hS]; exact hW)
                        rw [show (j + 1 - u).toNat = (j - u).toNat + 1 by omega, hs, if_pos hcond, if_pos heq, Int.add_zero S.2] at e
                        exact e _)
                     | (have hcond : u % 12 ≤ j % 12 ∧ j % 12 ≤ v % 12 := by omega
                        have heq : ¬ S.1 j.toNat = w := by omega
                        have e := fun l6 => ih (j + 1) (u2 J (b + 2) j.toNat w) l6 (by omega) (only_u2 hJ _ _) (by rw [show (j + 1 - u).toNat = (j - u).toNat + 1 by omega, hs, if_pos hcond]; exact WV_he hW (by omega) w (by omega))
                        rw [show (j + 1 - u).toNat = (j - u).toNat + 1 by omega, hs, if_pos hcond, if_neg heq] at e
                        exact e _)
                 · refine ⟨sw1 hB, _, hRW.ht, ?_⟩
                   refine ⟨_, sw2 hB, ⟨by omega, by omega⟩, ?_⟩
                   try simp (disch := omega) only [wH hW]
                   refine ⟨by (refine ⟨?_, ?_⟩ <;> omega), ?_⟩
                   refine B_X5_level_70 ?_
                   try dsimp only
                   try simp (disch := omega) only [wH hW]
                   refine ⟨by (refine ⟨?_, ?_⟩ <;> omega), ?_⟩
                   first
                     | exact absurd True.intro (by assumption)
                     | (have hcond : ¬ (u % 12 ≤ j % 12 ∧ j % 12 ≤ v % 12) := by omega
                        have e := fun l6 => ih (j + 1) J l6 (by omega) hJ (by rw [show (j + 1 - u).toNat = (j - u).toNat + 1 by omega, hs, if_neg hcond]; exact hW)
                        rw [show (j + 1 - u).toNat = (j - u).toNat + 1 by omega, hs, if_neg hcond] at e
                        exact e _)
                     | (have hcond : u % 12 ≤ j % 12 ∧ j % 12 ≤ v % 12 := by omega
                        have heq : S.1 j.toNat = w := by omega
                        have hS : uz S.1 j.toNat w = S.1 := by rw [← heq]; exact uz_self _ _
                        have e := fun l6 => ih (j + 1) J l6 (by omega) hJ (by rw [show (j + 1 - u).toNat = (j - u).toNat + 1 by omega, hs, if_pos hcond, hS]; exact hW)
                        rw [show (j + 1 - u).toNat = (j - u).toNat + 1 by omega, hs, if_pos hcond, if_pos heq, Int.add_zero S.2] at e
                        exact e _)
                     | (have hcond : u % 12 ≤ j % 12 ∧ j % 12 ≤ v % 12 := by omega
                        have heq : ¬ S.1 j.toNat = w := by omega
                        have e := fun l6 => ih (j + 1) (u2 J (b + 2) j.toNat w) l6 (by omega) (only_u2 hJ _ _) (by rw [show (j + 1 - u).toNat = (j - u).toNat + 1 by omega, hs, if_pos hcond]; exact WV_he hW (by omega) w (by omega))
                        rw [show (j + 1 - u).toNat = (j - u).toNat + 1 by omega, hs, if_pos hcond, if_neg heq] at e
                        exact e _))
        · refine B_X5_level_41 ?_
          try dsimp only
          try simp (disch := omega) only [wH hW]
          refine ⟨fun c45_1 => ?_, fun c45_1 => ?_⟩
          · refine B_X5_level_70 ?_
            try dsimp only
            try simp (disch := omega) only [wH hW]
            refine ⟨by (refine ⟨?_, ?_⟩ <;> omega), ?_⟩
            first
              | exact absurd True.intro (by assumption)
              | (have hcond : ¬ (u % 12 ≤ j % 12 ∧ j % 12 ≤ v % 12) := by omega
                 have e := fun l6 => ih (j + 1) J l6 (by omega) hJ (by rw [show (j + 1 - u).toNat = (j - u).toNat + 1 by omega, hs, if_neg hcond]; exact hW)
                 rw [show (j + 1 - u).toNat = (j - u).toNat + 1 by omega, hs, if_neg hcond] at e
                 exact e _)
              | (have hcond : u % 12 ≤ j % 12 ∧ j % 12 ≤ v % 12 := by omega
                 have heq : S.1 j.toNat = w := by omega
                 have hS : uz S.1 j.toNat w = S.1 := by rw [← heq]; exact uz_self _ _
                 have e := fun l6 => ih (j + 1) J l6 (by omega) hJ (by rw [show (j + 1 - u).toNat = (j - u).toNat + 1 by omega, hs, if_pos hcond, hS]; exact hW)
                 rw [show (j + 1 - u).toNat = (j - u).toNat + 1 by omega, hs, if_pos hcond, if_pos heq, Int.add_zero S.2] at e
                 exact e _)
              | (have hcond : u % 12 ≤ j % 12 ∧ j % 12 ≤ v % 12 := by omega
                 have heq : ¬ S.1 j.toNat = w := by omega
                 have e := fun l6 => ih (j + 1) (u2 J (b + 2) j.toNat w) l6 (by omega) (only_u2 hJ _ _) (by rw [show (j + 1 - u).toNat = (j - u).toNat + 1 by omega, hs, if_pos hcond]; exact WV_he hW (by omega) w (by omega))
                 rw [show (j + 1 - u).toNat = (j - u).toNat + 1 by omega, hs, if_pos hcond, if_neg heq] at e
                 exact e _)
          · first
              | (exfalso; omega)
              | exact absurd True.intro (by assumption)
              | (refine ⟨sw1 hB, _, hRW.ht, ?_⟩
                 refine ⟨_, sw2 hB, ⟨by omega, by omega⟩, ?_⟩
                 try simp (disch := omega) only [wH hW]
                 refine ⟨fun c56_1 => ?_, fun c56_1 => ?_⟩
                 · refine B_X5_level_70 ?_
                   try dsimp only
                   try simp (disch := omega) only [wH hW]
                   refine ⟨by (refine ⟨?_, ?_⟩ <;> omega), ?_⟩
                   first
                     | exact absurd True.intro (by assumption)
                     | (have hcond : ¬ (u % 12 ≤ j % 12 ∧ j % 12 ≤ v % 12) := by omega
                        have e := fun l6 => ih (j + 1) J l6 (by omega) hJ (by rw [show (j + 1 - u).toNat = (j - u).toNat + 1 by omega, hs, if_neg hcond]; exact hW)
                        rw [show (j + 1 - u).toNat = (j - u).toNat + 1 by omega, hs, if_neg hcond] at e
                        exact e _)
                     | (have hcond : u % 12 ≤ j % 12 ∧ j % 12 ≤ v % 12 := by omega
                        have heq : S.1 j.toNat = w := by omega
                        have hS : uz S.1 j.toNat w = S.1 := by rw [← heq]; exact uz_self _ _
                        have e := fun l6 => ih (j + 1) J l6 (by omega) hJ (by rw [show (j + 1 - u).toNat = (j - u).toNat + 1 by omega, hs, if_pos hcond, hS]; exact hW)
                        rw [show (j + 1 - u).toNat = (j - u).toNat + 1 by omega, hs, if_pos hcond, if_pos heq, Int.add_zero S.2] at e
                        exact e _)
                     | (have hcond : u % 12 ≤ j % 12 ∧ j % 12 ≤ v % 12 := by omega
                        have heq : ¬ S.1 j.toNat = w := by omega
                        have e := fun l6 => ih (j + 1) (u2 J (b + 2) j.toNat w) l6 (by omega) (only_u2 hJ _ _) (by rw [show (j + 1 - u).toNat = (j - u).toNat + 1 by omega, hs, if_pos hcond]; exact WV_he hW (by omega) w (by omega))
                        rw [show (j + 1 - u).toNat = (j - u).toNat + 1 by omega, hs, if_pos hcond, if_neg heq] at e
                        exact e _)
                 · refine ⟨sw1 hB, _, hRW.ht, ?_⟩
                   refine ⟨_, sw2 hB, ⟨by omega, by omega⟩, ?_⟩
                   try simp (disch := omega) only [wH hW]
                   refine ⟨by (refine ⟨?_, ?_⟩ <;> omega), ?_⟩
                   refine B_X5_level_70 ?_
                   try dsimp only
                   try simp (disch := omega) only [wH hW]
                   refine ⟨by (refine ⟨?_, ?_⟩ <;> omega), ?_⟩
                   first
                     | exact absurd True.intro (by assumption)
                     | (have hcond : ¬ (u % 12 ≤ j % 12 ∧ j % 12 ≤ v % 12) := by omega
                        have e := fun l6 => ih (j + 1) J l6 (by omega) hJ (by rw [show (j + 1 - u).toNat = (j - u).toNat + 1 by omega, hs, if_neg hcond]; exact hW)
                        rw [show (j + 1 - u).toNat = (j - u).toNat + 1 by omega, hs, if_neg hcond] at e
                        exact e _)
                     | (have hcond : u % 12 ≤ j % 12 ∧ j % 12 ≤ v % 12 := by omega
                        have heq : S.1 j.toNat = w := by omega
                        have hS : uz S.1 j.toNat w = S.1 := by rw [← heq]; exact uz_self _ _
                        have e := fun l6 => ih (j + 1) J l6 (by omega) hJ (by rw [show (j + 1 - u).toNat = (j - u).toNat + 1 by omega, hs, if_pos hcond, hS]; exact hW)
                        rw [show (j + 1 - u).toNat = (j - u).toNat + 1 by omega, hs, if_pos hcond, if_pos heq, Int.add_zero S.2] at e
                        exact e _)
                     | (have hcond : u % 12 ≤ j % 12 ∧ j % 12 ≤ v % 12 := by omega
                        have heq : ¬ S.1 j.toNat = w := by omega
                        have e := fun l6 => ih (j + 1) (u2 J (b + 2) j.toNat w) l6 (by omega) (only_u2 hJ _ _) (by rw [show (j + 1 - u).toNat = (j - u).toNat + 1 by omega, hs, if_pos hcond]; exact WV_he hW (by omega) w (by omega))
                        rw [show (j + 1 - u).toNat = (j - u).toNat + 1 by omega, hs, if_pos hcond, if_neg heq] at e
                        exact e _))
theorem D_level {G : amG} {I : Nat → Nat → Int} {R : Nat → Nat → Option Nat} {L : Nat → Nat → Int64} {x c t : Nat} {Q : amR → amH → Prop} (hG : amG0 G) {b : Nat} (hB : wb b) (hRW : RW R b) {z : Row} (hW : WV I b z) (hn : z 98 ≤ 12) {u v w : Int} (hu : 0 ≤ u ∧ u ≤ 95) (hv : u - 1 ≤ v ∧ v ≤ 95) (hQ : ∀ J : Nat → Nat → Int, only I J (b + 2) → WV J b (shZ z u v w (v - u + 1).toNat).1 → Q (Sum.inl (some (aI (shZ z u v w (v - u + 1).toNat).2))) (J, R, L, (SH sT), x, 0, 0)) : CT G sX5_level [aR (some (b + 1)), aI u, aI v, aI w] (I, R, L, (SH sT), x, c, t) Q := by
  refine CT_of ok_X5_level hG (Nat.le_of_ble_eq_true rfl) ?_
  show X G mX5_level Q 0 _ [] (I, R, L, (SH sT), x, 0, 0)
  refine B_X5_level_0 ?_
  try dsimp only
  have e := L_level (L := L) (x := x) hG hB hRW hn hu hv hQ 98 u I none (by omega) (fun _ _ => rfl)
  rw [show (u - u).toNat = 0 by omega] at e
  exact e hW
