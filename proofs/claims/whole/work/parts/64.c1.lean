/-! ===== the class: where a war lies ===== -/
def wb (b : Nat) : Prop := b = 1 ∨ b = 50 ∨ b = 101 ∨ b = 150 ∨ b = 199 ∨ b = 248 ∨ b = 297
theorem shW : [1, 50, 101, 150, 199, 248, 297].all (fun b => (List.range 49).all (fun j => decide (SH[b + j]? = shWar[j]?))) = true := by decide +kernel
theorem sw {b : Nat} (h : wb b) {j : Nat} (hj : j < 49) : SH[b + j]? = shWar[j]? := by
  have hm : b ∈ [1, 50, 101, 150, 199, 248, 297] := by
    rcases h with h | h | h | h | h | h | h <;> subst h <;> decide
  exact of_decide_eq_true (List.all_eq_true.mp (List.all_eq_true.mp shW b hm) j (List.mem_range.mpr hj))
theorem sw0 {b : Nat} (h : wb b) : SH[b]? = some (8, 0) := (sw h (j := 0) (by decide)).trans (by decide)
theorem sw1 {b : Nat} (h : wb b) : SH[b + 1]? = some (5, 0) := (sw h (j := 1) (by decide)).trans (by decide)
theorem sw2 {b : Nat} (h : wb b) : SH[b + 2]? = some (20, 96) := (sw h (j := 2) (by decide)).trans (by decide)
theorem sw3 {b : Nat} (h : wb b) : SH[b + 3]? = some (20, 2) := (sw h (j := 3) (by decide)).trans (by decide)
theorem sw4 {b : Nat} (h : wb b) : SH[b + 4]? = some (22, 12) := (sw h (j := 4) (by decide)).trans (by decide)
theorem sw5 {b : Nat} (h : wb b) : SH[b + 5]? = some (23, 30) := (sw h (j := 5) (by decide)).trans (by decide)
theorem sw6 {b : Nat} (h : wb b) : SH[b + 6]? = some (20, 2) := (sw h (j := 6) (by decide)).trans (by decide)
theorem swTa : (List.range 12).all (fun k => decide (shWar[7 + k]? = some (7, 0))) = true := by decide +kernel
theorem swOa : (List.range 30).all (fun k => decide (shWar[19 + k]? = some (3, 0))) = true := by decide +kernel
theorem swT {b : Nat} (h : wb b) {k : Nat} (hk : k < 12) : SH[b + 7 + k]? = some (7, 0) := by
  have e := sw h (j := 7 + k) (by omega)
  rw [← Nat.add_assoc] at e
  rw [e]
  exact of_decide_eq_true (List.all_eq_true.mp swTa k (List.mem_range.mpr hk))
theorem swO {b : Nat} (h : wb b) {k : Nat} (hk : k < 30) : SH[b + 19 + k]? = some (3, 0) := by
  have e := sw h (j := 19 + k) (by omega)
  rw [← Nat.add_assoc] at e
  rw [e]
  exact of_decide_eq_true (List.all_eq_true.mp swOa k (List.mem_range.mpr hk))
/-- the references of a war -/
def RW (R : Nat → Nat → Option Nat) (b : Nat) : Prop := (R b 0 = some (b + 1) ∧ R b 1 = some (b + 3) ∧ R b 2 = some (b + 4) ∧ R b 4 = some (b + 5) ∧ R b 9 = some (b + 6) ∧ R (b + 1) 0 = some (b + 2)) ∧ (∀ i : Nat, i < 12 → R (b + 4) i = some (b + 7 + i)) ∧ ∀ i : Nat, i < 30 → R (b + 5) i = some (b + 19 + i)
theorem RW.te {R : Nat → Nat → Option Nat} {b : Nat} (h : RW R b) : R b 0 = some (b + 1) := h.1.1
theorem RW.ge {R : Nat → Nat → Option Nat} {b : Nat} (h : RW R b) : R b 1 = some (b + 3) := h.1.2.1
theorem RW.tr {R : Nat → Nat → Option Nat} {b : Nat} (h : RW R b) : R b 2 = some (b + 4) := h.1.2.2.1
theorem RW.orr {R : Nat → Nat → Option Nat} {b : Nat} (h : RW R b) : R b 4 = some (b + 5) := h.1.2.2.2.1
theorem RW.lo {R : Nat → Nat → Option Nat} {b : Nat} (h : RW R b) : R b 9 = some (b + 6) := h.1.2.2.2.2.1
theorem RW.ht {R : Nat → Nat → Option Nat} {b : Nat} (h : RW R b) : R (b + 1) 0 = some (b + 2) := h.1.2.2.2.2.2
theorem RW.t {R : Nat → Nat → Option Nat} {b : Nat} (h : RW R b) {i : Nat} (hi : i < 12) : R (b + 4) i = some (b + 7 + i) := h.2.1 i hi
theorem RW.o {R : Nat → Nat → Option Nat} {b : Nat} (h : RW R b) {i : Nat} (hi : i < 30) : R (b + 5) i = some (b + 19 + i) := h.2.2 i hi
/-- its heights are those of the row -/
abbrev HV (I : Nat → Nat → Int) (b : Nat) (z : Row) : Prop := ∀ j : Nat, j < 96 → I (b + 2) j = z j
/-! ===== the class: the field ===== -/
theorem D_neighbour {G : amG} {h : amH} {Q : amR → amH → Prop} (hG : amG0 G) {v d : Int} (hv : 0 ≤ v ∧ v < 96) (hd : 0 ≤ d ∧ d < 4) (hQ : ∀ r : Int, r = nb v d → Q (Sum.inl (some (aI r))) (hGive h 0 0)) : CT G sX9_neighbour [aI v, aI d] h Q := by
  refine CT_of ok_X9_neighbour hG (Nat.le_of_ble_eq_true rfl) ?_
  show X G mX9_neighbour Q 0 _ [] (h.1, h.2.1, h.2.2.1, h.2.2.2.1, h.2.2.2.2.1, 0, 0)
  have td : v.tdiv 12 = v / 12 := Int.tdiv_eq_ediv_of_nonneg (by omega)
  have tm : v.tmod 12 = v % 12 := Int.tmod_eq_emod_of_nonneg (by omega)
  refine B_X9_neighbour_0 ?_
  try dsimp only
  refine ⟨fun c1_0 => ?_, fun c1_0 => ?_, fun c1_0 => ?_, fun c1_0 => ?_, trivial⟩
  · refine B_X9_neighbour_75 ?_
    try dsimp only
    refine ⟨⟨by decide, by (refine ⟨?_, ?_⟩ <;> omega)⟩, ?_⟩
    refine ⟨fun c79_1 => ?_, fun c79_1 => ?_⟩
    · refine B_X9_neighbour_88 ?_
      try dsimp only
      refine B_X9_neighbour_89 ?_
      try dsimp only
      refine hQ _ ?_
      unfold nb
      split <;> (try split) <;> (try split) <;> (try split) <;> first | omega | (simp_all; done) | (simp_all; omega)
    · refine ⟨by (refine ⟨?_, ?_⟩ <;> omega), ?_⟩
      refine B_X9_neighbour_89 ?_
      try dsimp only
      refine hQ _ ?_
      unfold nb
      split <;> (try split) <;> (try split) <;> (try split) <;> first | omega | (simp_all; done) | (simp_all; omega)
  · refine B_X9_neighbour_28 ?_
    try dsimp only
    refine ⟨fun c31_1 => ?_, fun c31_1 => ?_⟩
    · refine B_X9_neighbour_41 ?_
      try dsimp only
      refine B_X9_neighbour_42 ?_
      try dsimp only
      refine hQ _ ?_
      unfold nb
      split <;> (try split) <;> (try split) <;> (try split) <;> first | omega | (simp_all; done) | (simp_all; omega)
    · refine ⟨by (refine ⟨?_, ?_⟩ <;> omega), ?_⟩
      refine B_X9_neighbour_42 ?_
      try dsimp only
      refine hQ _ ?_
      unfold nb
      split <;> (try split) <;> (try split) <;> (try split) <;> first | omega | (simp_all; done) | (simp_all; omega)
  · refine B_X9_neighbour_43 ?_
    try dsimp only
    refine ⟨⟨by decide, by (refine ⟨?_, ?_⟩ <;> omega)⟩, ?_⟩
    refine ⟨fun c49_1 => ?_, fun c49_1 => ?_⟩
    · refine B_X9_neighbour_58 ?_
      try dsimp only
      refine B_X9_neighbour_59 ?_
      try dsimp only
      refine hQ _ ?_
      unfold nb
      split <;> (try split) <;> (try split) <;> (try split) <;> first | omega | (simp_all; done) | (simp_all; omega)
    · refine ⟨by (refine ⟨?_, ?_⟩ <;> omega), ?_⟩
      refine B_X9_neighbour_59 ?_
      try dsimp only
      refine hQ _ ?_
      unfold nb
      split <;> (try split) <;> (try split) <;> (try split) <;> first | omega | (simp_all; done) | (simp_all; omega)
  · refine B_X9_neighbour_60 ?_
    try dsimp only
    refine ⟨fun c63_1 => ?_, fun c63_1 => ?_⟩
    · refine B_X9_neighbour_73 ?_
      try dsimp only
      refine B_X9_neighbour_74 ?_
      try dsimp only
      refine hQ _ ?_
      unfold nb
      split <;> (try split) <;> (try split) <;> (try split) <;> first | omega | (simp_all; done) | (simp_all; omega)
    · refine ⟨by (refine ⟨?_, ?_⟩ <;> omega), ?_⟩
      refine B_X9_neighbour_74 ?_
      try dsimp only
      refine hQ _ ?_
      unfold nb
      split <;> (try split) <;> (try split) <;> (try split) <;> first | omega | (simp_all; done) | (simp_all; omega)
theorem D_canStep {G : amG} {I : Nat → Nat → Int} {R : Nat → Nat → Option Nat} {L : Nat → Nat → Int64} {x c t : Nat} {Q : amR → amH → Prop} (hG : amG0 G) {b : Nat} (hB : wb b) (hRW : RW R b) {z : Row} (hv : HV I b z) (hh : wfH z) {v w : Int} (hc : isC v) (hd : isC w) (hQ : ∀ r : Int, ((clm z v w) ∧ r = 1) ∨ (¬ (clm z v w) ∧ r = 0) → Q (Sum.inl (some (aI r))) (I, R, L, SH, x, 0, 0)) : CT G sX5_canStep [aR (some (b + 1)), aI v, aI w] (I, R, L, SH, x, c, t) Q := by
  refine CT_of ok_X5_canStep hG (Nat.le_of_ble_eq_true rfl) ?_
  show X G mX5_canStep Q 0 _ [] (I, R, L, SH, x, 0, 0)
  unfold isC at hc hd
  have z1 := hh v.toNat (by omega)
  have z2 := hh w.toNat (by omega)
  refine B_X5_canStep_0 ?_
  try dsimp only
  try simp (disch := omega) only [hv]
  refine ⟨sw1 hB, _, hRW.ht, ?_⟩
  refine ⟨_, sw2 hB, ⟨by omega, by omega⟩, ?_⟩
  try simp (disch := omega) only [hv]
  refine ⟨sw1 hB, _, hRW.ht, ?_⟩
  refine ⟨_, sw2 hB, ⟨by omega, by omega⟩, ?_⟩
  try simp (disch := omega) only [hv]
  refine ⟨by (refine ⟨?_, ?_⟩ <;> omega), ?_⟩
  refine ⟨fun c16_0 => ?_, fun c16_0 => ?_⟩
  · refine B_X5_canStep_29 ?_
    try dsimp only
    try simp (disch := omega) only [hv]
    refine B_X5_canStep_30 ?_
    try dsimp only
    try simp (disch := omega) only [hv]
    refine ⟨by first | exact Or.inl rfl | exact Or.inr rfl | exact Or.inl trivial | exact Or.inr trivial | omega, ?_⟩
    exact hQ _ (by unfold clm; omega)
  · refine ⟨fun c22_0 => ?_, fun c22_0 => ?_⟩
    · refine B_X5_canStep_29 ?_
      try dsimp only
      try simp (disch := omega) only [hv]
      refine B_X5_canStep_30 ?_
      try dsimp only
      try simp (disch := omega) only [hv]
      refine ⟨by first | exact Or.inl rfl | exact Or.inr rfl | exact Or.inl trivial | exact Or.inr trivial | omega, ?_⟩
      exact hQ _ (by unfold clm; omega)
    · refine B_X5_canStep_30 ?_
      try dsimp only
      try simp (disch := omega) only [hv]
      refine ⟨by first | exact Or.inl rfl | exact Or.inr rfl | exact Or.inl trivial | exact Or.inr trivial | omega, ?_⟩
      exact hQ _ (by unfold clm; omega)
theorem L_exits {G : amG} {I : Nat → Nat → Int} {R : Nat → Nat → Option Nat} {L : Nat → Nat → Int64} {x : Nat} {Q : amR → amH → Prop} (hG : amG0 G) {b : Nat} (hB : wb b) (hRW : RW R b) {z : Row} (hv : HV I b z) (hh : wfH z) {v : Int} (hc : isC v) (hQ : ∀ r : Int, r = exN z v 4 → Q (Sum.inl (some (aI r))) (I, R, L, SH, x, 0, 0)) :
    ∀ (n : Nat) (j s : Int) (l4 : Option amV), 0 ≤ j → 4 - j < n ∧ j ≤ 4 → s = exN z v j.toNat → X G mX5_exits Q 4 [some (aR (some (b + 1))), some (aI v), some (aI s), some (aI j), l4] [] (I, R, L, SH, x, 0, 0) := by
  intro n
  induction n with
  | zero =>
    intros
    exfalso; omega
  | succ n ih =>
    intro j s l4 h0 h1 hs
    have hb := exN_b z v j.toNat
    have he : exN z v (j.toNat + 1) = exN z v j.toNat + (if nb v (j.toNat : Nat) ≠ -1 ∧ clm z v (nb v (j.toNat : Nat)) then 1 else 0) := rfl
    rw [Int.toNat_of_nonneg h0] at he
    refine B_X5_exits_4 ?_
    try dsimp only
    try simp (disch := omega) only [hv]
    refine ⟨fun c6_0 => ?_, fun c6_0 => ?_⟩
    · refine B_X5_exits_41 ?_
      try dsimp only
      try simp (disch := omega) only [hv]
      refine hQ _ ?_
      rw [hs]
      congr 1
      omega
    · refine ⟨⟨Nat.zero_le _, Nat.zero_le _, Nat.le_of_ble_eq_true rfl⟩, trivial, ?_⟩
      refine D_neighbour hG hc (by omega) (fun r hr => ?_)
      have b1 := nb_cell hc (d := j) (by omega)
      rw [← hr] at b1
      refine af_I0 rfl rfl (by decide) ?_
      try dsimp only
      try simp (disch := omega) only [hv]
      refine B_X5_exits_14 ?_
      try dsimp only
      try simp (disch := omega) only [hv]
      refine ⟨fun c19_1 => ?_, fun c19_1 => ?_⟩
      · refine B_X5_exits_35 ?_
        try dsimp only
        try simp (disch := omega) only [hv]
        refine ⟨by (refine ⟨?_, ?_⟩ <;> omega), ?_⟩
        refine ih (j + 1) _ _ (by omega) (by omega) ?_
        rw [show (j + 1).toNat = j.toNat + 1 by omega, he, ← hr]
        first
          | (rw [if_pos (by omega)]; omega)
          | (rw [if_neg (by omega)]; omega)
      · refine ⟨⟨Nat.zero_le _, Nat.zero_le _, Nat.le_of_ble_eq_true rfl⟩, sw1 hB, ?_⟩
        refine D_canStep hG hB hRW hv hh hc (b1.resolve_left (by assumption)) (fun r2 hr2 => ?_)
        refine af_I0 rfl rfl (by decide) ?_
        try dsimp only
        try simp (disch := omega) only [hv]
        refine B_X5_exits_29 ?_
        try dsimp only
        try simp (disch := omega) only [hv]
        refine ⟨fun c29_2 => ?_, fun c29_2 => ?_⟩
        · refine B_X5_exits_35 ?_
          try dsimp only
          try simp (disch := omega) only [hv]
          refine ⟨by (refine ⟨?_, ?_⟩ <;> omega), ?_⟩
          refine ih (j + 1) _ _ (by omega) (by omega) ?_
          rw [show (j + 1).toNat = j.toNat + 1 by omega, he, ← hr]
          first
            | (rw [if_pos (by omega)]; omega)
            | (rw [if_neg (by omega)]; omega)
        · refine ⟨by (refine ⟨?_, ?_⟩ <;> omega), ?_⟩
          refine B_X5_exits_35 ?_
          try dsimp only
          try simp (disch := omega) only [hv]
          refine ⟨by (refine ⟨?_, ?_⟩ <;> omega), ?_⟩
          refine ih (j + 1) _ _ (by omega) (by omega) ?_
          rw [show (j + 1).toNat = j.toNat + 1 by omega, he, ← hr]
          first
            | (rw [if_pos (by omega)]; omega)
            | (rw [if_neg (by omega)]; omega)
theorem D_exits {G : amG} {I : Nat → Nat → Int} {R : Nat → Nat → Option Nat} {L : Nat → Nat → Int64} {x c t : Nat} {Q : amR → amH → Prop} (hG : amG0 G) {b : Nat} (hB : wb b) (hRW : RW R b) {z : Row} (hv : HV I b z) (hh : wfH z) {v : Int} (hc : isC v) (hQ : ∀ r : Int, r = exN z v 4 → Q (Sum.inl (some (aI r))) (I, R, L, SH, x, 0, 0)) : CT G sX5_exits [aR (some (b + 1)), aI v] (I, R, L, SH, x, c, t) Q := by
  refine CT_of ok_X5_exits hG (Nat.le_of_ble_eq_true rfl) ?_
  show X G mX5_exits Q 0 _ [] (I, R, L, SH, x, 0, 0)
  refine B_X5_exits_0 ?_
  try dsimp only
  exact L_exits hG hB hRW hv hh hc hQ 5 0 0 none (by decide) (by decide) rfl
