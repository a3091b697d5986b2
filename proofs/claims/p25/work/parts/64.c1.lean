variable {sT : List (Nat × Nat)}
/-! ===== the class: where a war lies ===== -/
def wb (b : Nat) : Prop := b = 1 ∨ b = 50 ∨ b = 101 ∨ b = 150 ∨ b = 199 ∨ b = 248 ∨ b = 297
theorem shW : [1, 50, 101, 150, 199, 248, 297].all (fun b => (List.range 49).all (fun j => decide (SH0[b + j]? = shWar[j]?))) = true := by decide +kernel
theorem sw {b : Nat} (h : wb b) {j : Nat} (hj : j < 49) : (SH sT)[b + j]? = shWar[j]? := by
  have hm : b ∈ [1, 50, 101, 150, 199, 248, 297] := by
    rcases h with h | h | h | h | h | h | h <;> subst h <;> decide
  have e := of_decide_eq_true (List.all_eq_true.mp (List.all_eq_true.mp shW b hm) j (List.mem_range.mpr hj))
  have hl : b + j < SH0.length := by
    have : SH0.length = 361 := by decide +kernel
    rcases h with h | h | h | h | h | h | h <;> omega
  unfold SH
  rw [List.getElem?_append_left hl]
  exact e
theorem sw0 {b : Nat} (h : wb b) : (SH sT)[b]? = some (8, 0) := (sw h (j := 0) (by decide)).trans (by decide)
theorem sw1 {b : Nat} (h : wb b) : (SH sT)[b + 1]? = some (5, 0) := (sw h (j := 1) (by decide)).trans (by decide)
theorem sw2 {b : Nat} (h : wb b) : (SH sT)[b + 2]? = some (20, 96) := (sw h (j := 2) (by decide)).trans (by decide)
theorem sw3 {b : Nat} (h : wb b) : (SH sT)[b + 3]? = some (20, 2) := (sw h (j := 3) (by decide)).trans (by decide)
theorem sw4 {b : Nat} (h : wb b) : (SH sT)[b + 4]? = some (22, 12) := (sw h (j := 4) (by decide)).trans (by decide)
theorem sw5 {b : Nat} (h : wb b) : (SH sT)[b + 5]? = some (23, 30) := (sw h (j := 5) (by decide)).trans (by decide)
theorem sw6 {b : Nat} (h : wb b) : (SH sT)[b + 6]? = some (20, 2) := (sw h (j := 6) (by decide)).trans (by decide)
theorem swTa : (List.range 12).all (fun k => decide (shWar[7 + k]? = some (7, 0))) = true := by decide +kernel
theorem swOa : (List.range 30).all (fun k => decide (shWar[19 + k]? = some (3, 0))) = true := by decide +kernel
theorem swT {b : Nat} (h : wb b) {k : Nat} (hk : k < 12) : (SH sT)[b + 7 + k]? = some (7, 0) := by
  have e := sw (sT := sT) h (j := 7 + k) (by omega)
  rw [← Nat.add_assoc] at e
  rw [e]
  exact of_decide_eq_true (List.all_eq_true.mp swTa k (List.mem_range.mpr hk))
theorem swO {b : Nat} (h : wb b) {k : Nat} (hk : k < 30) : (SH sT)[b + 19 + k]? = some (3, 0) := by
  have e := sw (sT := sT) h (j := 19 + k) (by omega)
  rw [← Nat.add_assoc] at e
  rw [e]
  exact of_decide_eq_true (List.all_eq_true.mp swOa k (List.mem_range.mpr hk))
/-- the references of a war -/
def RW (R : Nat → Nat → Option Nat) (b : Nat) : Prop := (R b 0 = some (b + 1) ∧ R b 1 = some (b + 3) ∧ R b 2 = some (b + 4) ∧ R b 4 = some (b + 5) ∧ R b 9 = some (b + 6) ∧ R (b + 1) 0 = some (b + 2)) ∧ (∀ i : Nat, i < 12 → R (b + 4) i = some (b + 7 + i)) ∧ ∀ i : Nat, i < 30 → R (b + 5) i = some (b + 19 + i)
theorem RW.te {R : Nat → Nat → Option Nat} {b : Nat} (h : RW R b) : R b 0 = some (b + 1) := h.1.1
theorem RW.ge {R : Nat → Nat → Option Nat} {b : Nat} (h : RW R b) : R b 1 = some (b + 3) := h.1.2.1
theorem RW.tr {R : Nat → Nat → Option Nat} {b : Nat} (h : RW R b) : R b 2 = some (b + 4) := h.1.2.2.1
theorem RW.orr {R : Nat → Nat → Option Nat} {b : Nat} (h : RW R b) : R b 4 = some (b + 5) := h.1.2.2.2.1
theorem RW.lo {R : Nat → Nat → Option Nat} {b : Nat} (h : RW R b) : R b 9 = some (b + 6) := h.1.2.2.2.2.1
theorem RW.ht {R : Nat → Nat → Option Nat} {b : Nat} (h : RW R b) : R (b + 1) 0 = some (b + 2) := h.1.2.2.2.2.2
theorem RW.t {R : Nat → Nat → Option Nat} {b : Nat} (h : RW R b) {i : Nat} (hi : i < 12) : R (b + 4) i = some (b + 7 + i) := h.2.1 i hi
theorem RW.o {R : Nat → Nat → Option Nat} {b : Nat} (h : RW R b) {i : Nat} (hi : i < 30) : R (b + 5) i = some (b + 19 + i) := h.2.2 i hi
/-- its heights are those of the row -/
abbrev HV (I : Nat → Nat → Int) (b : Nat) (z : Row) : Prop := ∀ j : Nat, j < 96 → I (b + 2) j = z j
/-! ===== the class: the field ===== -/
theorem D_neighbour {G : amG} {h : amH} {Q : amR → amH → Prop} (hG : amG0 G) {v d : Int} (hv : 0 ≤ v ∧ v < 96) (hd : 0 ≤ d ∧ d < 4) (hQ : ∀ r : Int, r = nb v d → Q (Sum.inl (some (aI r))) (hGive h 0 0)) : CT G sX9_neighbour [aI v, aI d] h Q := by
  refine CT_of ok_X9_neighbour hG (Nat.le_of_ble_eq_true rfl) ?_
  show X G mX9_neighbour Q 0 _ [] (h.1, h.2.1, h.2.2.1, h.2.2.2.1, h.2.2.2.2.1, 0, 0)
  have td : v.tdiv 12 = v / 12 := Int.tdiv_eq_ediv_of_nonneg (by omega)
  have tm : v.tmod 12 = v % 12 := Int.tmod_eq_emod_of_nonneg (by omega)
  refine B_X9_neighbour_0 ?_
  try dsimp only
  refine ⟨fun c1_0 => ?_, fun c1_0 => ?_, fun c1_0 => ?_, fun c1_0 => ?_, trivial⟩
  · refine B_X9_neighbour_75 ?_
    try dsimp only
    refine ⟨⟨by decide, by (refine ⟨?_, ?_⟩ <;> omega)⟩, ?_⟩
    refine ⟨fun c79_1 => ?_, fun c79_1 => ?_⟩
    · refine B_X9_neighbour_88 ?_
      try dsimp only
      refine B_X9_neighbour_89 ?_
      try dsimp only
      refine hQ _ ?_
      unfold nb
      split <;> (try split) <;> (try split) <;> (try split) <;> first | omega | (simp_all; done) | (simp_all; omega)
    · refine ⟨by (refine ⟨?_, ?_⟩ <;> omega), ?_⟩
      refine B_X9_neighbour_89 ?_
      try dsimp only
      refine hQ _ ?_
      unfold nb
      split <;> (try split) <;> (try split) <;> (try split) <;> first | omega | (simp_all; done) | (simp_all; omega)
  · refine B_X9_neighbour_28 ?_
    try dsimp only
    refine ⟨fun c31_1 => ?_, fun c31_1 => ?_⟩
    · refine B_X9_neighbour_41 ?_
      try dsimp only
      refine B_X9_neighbour_42 ?_
      try dsimp only
      refine hQ _ ?_
      unfold nb
      split <;> (try split) <;> (try split) <;> (try split) <;> first | omega | (simp_all; done) | (simp_all; omega)
    · refine ⟨by (refine ⟨?_, ?_⟩ <;> omega), ?_⟩
      refine B_X9_neighbour_42 ?_
      try dsimp only
      refine hQ _ ?_
      unfold nb
      split <;> (try split) <;> (try split) <;> (try split) <;> first | omega | (simp_all; done) | (simp_all; omega)
  · refine B_X9_neighbour_43 ?_
    try dsimp only
    refine ⟨⟨by decide, by (refine ⟨?_, ?_⟩ <;> omega)⟩, ?_⟩
    refine ⟨fun c49_1 => ?_, fun c49_1 => ?_⟩
    · refine B_X9_neighbour_58 ?_
      try dsimp only
      refine B_X9_neighbour_59 ?_
      try dsimp only
      refine hQ _ ?_
      unfold nb
      split <;> (try split) <;> (try split) <;> (try split) <;> first | omega | (simp_all; done) | (simp_all; omega)
    · refine ⟨by (refine ⟨?_, ?_⟩ <;> omega), ?_⟩
      refine B_X9_neighbour_59 ?_
      try dsimp only
      refine hQ _ ?_
      unfold nb
      split <;> (try split) <;> (try split) <;> (try split) <;> first | omega | (simp_all; done) | (simp_all; omega)
  · refine B_X9_neighbour_60 ?_
    try dsimp only
    refine ⟨fun c63_1 => ?_, fun c63_1 => ?_⟩
    · refine B_X9_neighbour_73 ?_
      try dsimp only
      refine B_X9_neighbour_74 ?_
      try dsimp only
      refine hQ _ ?_
      unfold nb
      split <;> (try split) <;> (try split) <;> (try split) <;> first | omega | (simp_all; done) | (simp_all; omega)
    · refine ⟨by (refine ⟨?_, ?_⟩ <;> omega), ?_⟩
      refine B_X9_neighbour_74 ?_
      try dsimp only
      refine hQ _ ?_
      unfold nb
      split <;> (try split) <;> (try split) <;> (try split) <;> first | omega | (simp_all; done) | (simp_all; omega)
theorem D_canStep {G : amG} {I : Nat → Nat → Int} {R : Nat → Nat → Option Nat} {L : Nat → Nat → Int64} {x c t : Nat} {Q : amR → amH → Prop} (hG : amG0 G) {b : Nat} (hB : wb b) (hRW : RW R b) {z : Row} (hv : HV I b z) (hh : wfH z) {v w : Int} (hc : isC v) (hd : isC w) (hQ : ∀ r : Int, ((clm z v w) ∧ r = 1) ∨ (¬ (clm z v w) ∧ r = 0) → Q (Sum.inl (some (aI r))) (I, R, L, (SH sT), x, 0, 0)) : CT G sX5_canStep [aR (some (b + 1)), aI v, aI w] (I, R, L, (SH sT), x, c, t) Q := by
  refine CT_of ok_X5_canStep hG (Nat.le_of_ble_eq_true rfl) ?_
  show X G mX5_canStep Q 0 _ [] (I, R, L, (SH sT), x, 0, 0)
  unfold isC at hc hd
  have z1 := hh v.toNat (by omega)
  have z2 := hh w.toNat (by omega)
  refine B_X5_canStep_0 ?_
  try dsimp only
  try simp (disch := omega) only [hv]
  refine ⟨sw1 hB, _, hRW.ht, ?_⟩
  refine ⟨_, sw2 hB, ⟨by omega, by omega⟩, ?_⟩
  try simp (disch := omega) only [hv]
  refine ⟨sw1 hB, _, hRW.ht, ?_⟩
  refine ⟨_, sw2 hB, ⟨by omega, by omega⟩, ?_⟩
  try simp (disch := omega) only [hv]
  refine ⟨by (refine ⟨?_, ?_⟩ <;> omega), ?_⟩
  refine ⟨fun c16_0 => ?_, fun c16_0 => ?_⟩
  · refine B_X5_canStep_29 ?_
    try dsimp only
    try simp (disch := omega) only [hv]
    refine B_X5_canStep_30 ?_
    try dsimp only
    try simp (disch := omega) only [hv]
    refine ⟨by first | exact Or.inl rfl | exact Or.inr rfl | exact Or.inl trivial | exact Or.inr trivial | omega, ?_⟩
    exact hQ _ (by unfold clm; omega)
  · refine ⟨fun c22_0 => ?_, fun c22_0 => ?_⟩
    · refine B_X5_canStep_29 ?_
      try dsimp only
      try simp (disch := omega) only [hv]
      refine B_X5_canStep_30 ?_
      try dsimp only
      try simp (disch := omega) only [hv]
      refine ⟨by first | exact Or.inl rfl | exact Or.inr rfl | exact Or.inl trivial | exact Or.inr trivial | omega, ?_⟩
      exact hQ _ (by unfold clm; omega)
    · refine B_X5_canStep_30 ?_
      try dsimp only
      try simp (disch := omega) only [hv]
      refine ⟨by first | exact Or.inl rfl | exact Or.inr rfl | exact Or.inl trivial | exact Or.inr trivial | omega, ?_⟩
      exact hQ _ (by unfold clm; omega)
theorem L_exits {G : amG} {I : Nat → Nat → Int} {R : Nat → Nat → Option Nat} {L : Nat → Nat → Int64} {x : Nat} {Q : amR → amH → Prop} (hG : amG0 G) {b : Nat} (hB : wb b) (hRW : RW R b) {z : Row} (hv : HV I b z) (hh : wfH z) {v : Int} (hc : isC v) (hQ : ∀ r : Int, r = exN z v 4 → Q (Sum.inl (some (aI r))) (I, R, L, (SH sT), x, 0, 0)) :
    ∀ (n : Nat) (j s : Int) (l4 : Option amV), 0 ≤ j → 4 - j < n ∧ j ≤ 4 → s = exN z v j.toNat → X G mX5_exits Q 4 [some (aR (some (b + 1))), some (aI v), some (aI s), some (aI j), l4] [] (I, R, L, (SH sT), x, 0, 0) := by
  intro n
  induction n with
  | zero =>
    intros
    exfalso; omega
  | succ n ih =>
    intro j s l4 h0 h1 hs
    have hb := exN_b z v j.toNat
    have he : exN z v (j.toNat + 1) = exN z v j.toNat + (if nb v (j.toNat : Nat) ≠ -1 ∧ clm z v (nb v (j.toNat : Nat)) then 1 else 0) := rfl
    rw [Int.toNat_of_nonneg h0] at he
    refine B_X5_exits_4 ?_
    try dsimp only
    try simp (disch := omega) only [hv]
    refine ⟨fun c6_0 => ?_, fun c6_0 => ?_⟩
    · refine B_X5_exits_41 ?_
      try dsimp only
      try simp (disch := omega) only [hv]
      refine hQ _ ?_
      rw [hs]
      congr 1
      omega
    · refine ⟨⟨Nat.zero_le _, Nat.zero_le _, Nat.le_of_ble_eq_true rfl⟩, trivial, ?_⟩
      refine D_neighbour hG hc (by omega) (fun r hr => ?_)
      have b1 := nb_cell hc (d := j) (by omega)
      rw [← hr] at b1
      refine af_I0 rfl rfl (by decide) ?_
      try dsimp only
      try simp (disch := omega) only [hv]
      refine B_X5_exits_14 ?_
      try dsimp only
      try simp (disch := omega) only [hv]
      refine ⟨fun c19_1 => ?_, fun c19_1 => ?_⟩
      · refine B_X5_exits_35 ?_
        try dsimp only
        try simp (disch := omega) only [hv]
        refine ⟨by (refine ⟨?_, ?_⟩ <;> omega), ?_⟩
        refine ih (j + 1) _ _ (by omega) (by omega) ?_
        rw [show (j + 1).toNat = j.toNat + 1 by omega, he, ← hr]
        first
          | (rw [if_pos (by omega)]; omega)
          | (rw [if_neg (by omega)]; omega)
      · refine ⟨⟨Nat.zero_le _, Nat.zero_le _, Nat.le_of_ble_eq_true rfl⟩, sw1 hB, ?_⟩
        refine D_canStep hG hB hRW hv hh hc (b1.resolve_left (by assumption)) (fun r2 hr2 => ?_)
        refine af_I0 rfl rfl (by decide) ?_
        try dsimp only
        try simp (disch := omega) only [hv]
        refine B_X5_exits_29 ?_
        try dsimp only
        try simp (disch := omega) only [hv]
        refine ⟨fun c29_2 => ?_, fun c29_2 => ?_⟩
        · refine B_X5_exits_35 ?_
          try dsimp only
          try simp (disch := omega) only [hv]
          refine ⟨by (refine ⟨?_, ?_⟩ <;> omega), ?_⟩
          refine ih (j + 1) _ _ (by omega) (by omega) ?_
          rw [show (j + 1).toNat = j.toNat + 1 by omega, he, ← hr]
          first
            | (rw [if_pos (by omega)]; omega)
            | (rw [if_neg (by omega)]; omega)
        · refine ⟨by (refine ⟨?_, ?_⟩ <;> omega), ?_⟩
          refine B_X5_exits_35 ?_
          try dsimp only
          try simp (disch := omega) only [hv]
          refine ⟨by (refine ⟨?_, ?_⟩ <;> omega), ?_⟩
          refine ih (j + 1) _ _ (by omega) (by omega) ?_
          rw [show (j + 1).toNat = j.toNat + 1 by omega, he, ← hr]
          first
            | (rw [if_pos (by omega)]; omega)
            | (rw [if_neg (by omega)]; omega)
theorem D_exits {G : amG} {I : Nat → Nat → Int} {R : Nat → Nat → Option Nat} {L : Nat → Nat → Int64} {x c t : Nat} {Q : amR → amH → Prop} (hG : amG0 G) {b : Nat} (hB : wb b) (hRW : RW R b) {z : Row} (hv : HV I b z) (hh : wfH z) {v : Int} (hc : isC v) (hQ : ∀ r : Int, r = exN z v 4 → Q (Sum.inl (some (aI r))) (I, R, L, (SH sT), x, 0, 0)) : CT G sX5_exits [aR (some (b + 1)), aI v] (I, R, L, (SH sT), x, c, t) Q := by
  refine CT_of ok_X5_exits hG (Nat.le_of_ble_eq_true rfl) ?_
  show X G mX5_exits Q 0 _ [] (I, R, L, (SH sT), x, 0, 0)
  refine B_X5_exits_0 ?_
  try dsimp only
  exact L_exits hG hB hRW hv hh hc hQ 5 0 0 none (by decide) (by decide) rfl
theorem D_between {G : amG} {h : amH} {Q : amR → amH → Prop} (hG : amG0 G) {s d k n : Int} (hn : 1 ≤ n ∧ n ≤ 11) (hk : 0 ≤ k ∧ k ≤ n) (hs : 0 ≤ s ∧ s ≤ 11) (hd : 0 ≤ s + d ∧ s + d ≤ 11) (hQ : Q (Sum.inl (some (aI (pt n s d k)))) (hGive h 0 0)) : CT G sX5_between [aI s, aI d, aI k, aI n] h Q := by
  refine CT_of ok_X5_between hG (Nat.le_of_ble_eq_true rfl) ?_
  show X G mX5_between Q 0 _ [] (h.1, h.2.1, h.2.2.1, h.2.2.2.1, h.2.2.2.2.1, 0, 0)
  have q1 := pt_sum (n := n) (a := s) (d := d) (k := k) (M := 11) hk hs hd
  have q3 := pt_b (n := n) (a := s) (d := d) (k := k) (M := 11) hn.1 hk hs hd
  have q5 : Int.tdiv (2 * (n * s + k * d) + n) (2 * n) = pt n s d k := Int.tdiv_eq_ediv_of_nonneg (by omega)
  have q7 := mulb (a := n) (b := s) (A := 11) (B := 11) (by omega) hs
  refine B_X5_between_0 ?_
  try dsimp only
  refine ⟨fun c2_0 => ?_, fun c2_0 => ?_⟩
  · refine B_X5_between_9 ?_
    try dsimp only
    refine ⟨by (refine ⟨?_, ?_⟩ <;> omega), ?_⟩
    refine ⟨by (refine ⟨?_, ?_⟩ <;> omega), ?_⟩
    refine ⟨by (refine ⟨?_, ?_⟩ <;> omega), ?_⟩
    refine ⟨by (refine ⟨?_, ?_⟩ <;> omega), ?_⟩
    refine ⟨by (refine ⟨?_, ?_⟩ <;> omega), ?_⟩
    refine ⟨by (refine ⟨?_, ?_⟩ <;> omega), ?_⟩
    refine ⟨⟨by omega, by (refine ⟨?_, ?_⟩ <;> omega)⟩, ?_⟩
    refine B_X5_between_24 ?_
    try dsimp only
    first
      | (exfalso; omega)
      | (rw [q5]; exact hQ)
  · refine B_X5_between_24 ?_
    try dsimp only
    first
      | (exfalso; omega)
      | (rw [q5]; exact hQ)
theorem L_inSight {G : amG} {I : Nat → Nat → Int} {R : Nat → Nat → Option Nat} {L : Nat → Nat → Int64} {x : Nat} {Q : amR → amH → Prop} (hG : amG0 G) {b : Nat} (hB : wb b) (hRW : RW R b) {z : Row} (hv : HV I b z) (hh : wfH z) {v w : Int} (hc : isC v) (hd : isC w) (hQ : ∀ r : Int, ((seeU z v w) ∧ r = 1) ∨ (¬ (seeU z v w) ∧ r = 0) → Q (Sum.inl (some (aI r))) (I, R, L, (SH sT), x, 0, 0)) :
    ∀ (n : Nat) (k : Int) (l7 l8 l9 : Option amV), (1 ≤ k ∧ k ≤ 12 ∧ 12 - k < n) → (∀ j : Int, 1 ≤ j → j < k → seeK z v w j) → X G mX5_inSight Q 38 [some (aR (some (b + 1))), some (aI v), some (aI w), some (aI (w % 12 - v % 12)), some (aI (w / 12 - v / 12)), some (aI (nn v w)), some (aI k), l7, l8, l9] [] (I, R, L, (SH sT), x, 0, 0) := by
  intro n
  induction n with
  | zero =>
    intros
    exfalso; omega
  | succ n ih =>
    intro k l7 l8 l9 h1 hs
    unfold isC at hc hd
    have n0 : 0 ≤ nn v w ∧ nn v w ≤ 11 := nn_b hc hd
    have za := hh v.toNat (by omega)
    have zb := hh w.toNat (by omega)
    have tdv : v.tdiv 12 = v / 12 := Int.tdiv_eq_ediv_of_nonneg (by omega)
    have tmv : v.tmod 12 = v % 12 := Int.tmod_eq_emod_of_nonneg (by omega)
    refine B_X5_inSight_38 ?_
    try dsimp only
    (try simp (disch := omega) only [hv, tdv, tmv])
    refine ⟨fun c42_0 => ?_, fun c42_0 => ?_⟩
    · refine B_X5_inSight_131 ?_
      try dsimp only
      (try simp (disch := omega) only [hv, tdv, tmv])
      refine ⟨by first | exact Or.inl rfl | exact Or.inr rfl | exact Or.inl trivial | exact Or.inr trivial | omega, ?_⟩
      refine hQ _ ?_
      first
        | exact Or.inr ⟨fun u => by have u1 := u k (by omega) (by omega); unfold seeK at u1; omega, rfl⟩
        | exact Or.inl ⟨fun j j1 j2 => hs j j1 (by omega), rfl⟩
    · have q3 := pt_b (n := nn v w) (a := v % 12) (d := w % 12 - v % 12) (k := k) (M := 11) (by omega) (by omega) (by omega) (by omega)
      have q4 := pt_b (n := nn v w) (a := v / 12) (d := w / 12 - v / 12) (k := k) (M := 7) (by omega) (by omega) (by omega) (by omega)
      have zp := hh (12 * pt (nn v w) (v / 12) (w / 12 - v / 12) k + pt (nn v w) (v % 12) (w % 12 - v % 12) k).toNat (by omega)
      have q9 := mulb (A := 9) (B := 11) zp n0
      have q10 := mulb (a := z v.toNat + 1) (b := nn v w - k) (A := 10) (B := 11) (by omega) (by omega)
      have q11 := mulb (a := z w.toNat + 1) (b := k) (A := 10) (B := 11) (by omega) (by omega)
      refine ⟨⟨by decide, by (refine ⟨?_, ?_⟩ <;> omega)⟩, ?_⟩
      refine ⟨⟨Nat.zero_le _, Nat.zero_le _, Nat.le_of_ble_eq_true rfl⟩, trivial, ?_⟩
      refine D_between hG (by omega) (by omega) (by omega) (by omega) ?_
      refine af_I0 rfl rfl (by decide) ?_
      try dsimp only
      (try simp (disch := omega) only [hv, tdv, tmv])
      refine B_X5_inSight_57 ?_
      try dsimp only
      (try simp (disch := omega) only [hv, tdv, tmv])
      refine ⟨⟨by decide, by (refine ⟨?_, ?_⟩ <;> omega)⟩, ?_⟩
      refine ⟨⟨Nat.zero_le _, Nat.zero_le _, Nat.le_of_ble_eq_true rfl⟩, trivial, ?_⟩
      refine D_between hG (by omega) (by omega) (by omega) (by omega) ?_
      refine af_I0 rfl rfl (by decide) ?_
      try dsimp only
      (try simp (disch := omega) only [hv, tdv, tmv])
      refine B_X5_inSight_72 ?_
      try dsimp only
      (try simp (disch := omega) only [hv, tdv, tmv])
      refine ⟨sw1 hB, _, hRW.ht, ?_⟩
      refine ⟨_, sw2 hB, ⟨by omega, by omega⟩, ?_⟩
      (try simp (disch := omega) only [hv, tdv, tmv])
      refine ⟨by (refine ⟨?_, ?_⟩ <;> omega), ?_⟩
      refine ⟨by (refine ⟨?_, ?_⟩ <;> omega), ?_⟩
      refine ⟨by (refine ⟨?_, ?_⟩ <;> omega), ?_⟩
      refine ⟨sw1 hB, _, hRW.ht, ?_⟩
      refine ⟨_, sw2 hB, ⟨by omega, by omega⟩, ?_⟩
      (try simp (disch := omega) only [hv, tdv, tmv])
      refine ⟨by (refine ⟨?_, ?_⟩ <;> omega), ?_⟩
      refine ⟨by (refine ⟨?_, ?_⟩ <;> omega), ?_⟩
      refine ⟨by (refine ⟨?_, ?_⟩ <;> omega), ?_⟩
      refine ⟨sw1 hB, _, hRW.ht, ?_⟩
      refine ⟨by (refine ⟨?_, ?_⟩ <;> omega), ?_⟩
      refine ⟨by (refine ⟨?_, ?_⟩ <;> omega), ?_⟩
      refine ⟨_, sw2 hB, ⟨by omega, by omega⟩, ?_⟩
      (try simp (disch := omega) only [hv, tdv, tmv])
      refine ⟨by (refine ⟨?_, ?_⟩ <;> omega), ?_⟩
      refine ⟨fun c120_2 => ?_, fun c120_2 => ?_⟩
      · refine B_X5_inSight_125 ?_
        try dsimp only
        (try simp (disch := omega) only [hv, tdv, tmv])
        refine ⟨by (refine ⟨?_, ?_⟩ <;> omega), ?_⟩
        refine ih (k + 1) _ _ _ (by omega) (fun j j1 j2 => ?_)
        rcases Int.lt_or_le j k with z1 | z1
        · exact hs j j1 z1
        · have e : j = k := by omega
          rw [e]
          unfold seeK
          omega
      · refine ⟨by first | exact Or.inl rfl | exact Or.inr rfl | exact Or.inl trivial | exact Or.inr trivial | omega, ?_⟩
        refine hQ _ ?_
        first
          | exact Or.inr ⟨fun u => by have u1 := u k (by omega) (by omega); unfold seeK at u1; omega, rfl⟩
          | exact Or.inl ⟨fun j j1 j2 => hs j j1 (by omega), rfl⟩
theorem D_inSight {G : amG} {I : Nat → Nat → Int} {R : Nat → Nat → Option Nat} {L : Nat → Nat → Int64} {x c t : Nat} {Q : amR → amH → Prop} (hG : amG0 G) {b : Nat} (hB : wb b) (hRW : RW R b) {z : Row} (hv : HV I b z) (hh : wfH z) {v w : Int} (hc : isC v) (hd : isC w) (hQ : ∀ r : Int, ((seeU z v w) ∧ r = 1) ∨ (¬ (seeU z v w) ∧ r = 0) → Q (Sum.inl (some (aI r))) (I, R, L, (SH sT), x, 0, 0)) : CT G sX5_inSight [aR (some (b + 1)), aI v, aI w] (I, R, L, (SH sT), x, c, t) Q := by
  refine CT_of ok_X5_inSight hG (Nat.le_of_ble_eq_true rfl) ?_
  show X G mX5_inSight Q 0 _ [] (I, R, L, (SH sT), x, 0, 0)
  have hc' : 0 ≤ v ∧ v < 96 := hc
  have hd' : 0 ≤ w ∧ w < 96 := hd
  have tdv : v.tdiv 12 = v / 12 := Int.tdiv_eq_ediv_of_nonneg (by omega)
  have tmv : v.tmod 12 = v % 12 := Int.tmod_eq_emod_of_nonneg (by omega)
  have tdw : w.tdiv 12 = w / 12 := Int.tdiv_eq_ediv_of_nonneg (by omega)
  have tmw : w.tmod 12 = w % 12 := Int.tmod_eq_emod_of_nonneg (by omega)
  refine B_X5_inSight_0 ?_
  try dsimp only
  refine ⟨⟨by decide, by (refine ⟨?_, ?_⟩ <;> omega)⟩, ?_⟩
  refine ⟨⟨by decide, by (refine ⟨?_, ?_⟩ <;> omega)⟩, ?_⟩
  refine ⟨by (refine ⟨?_, ?_⟩ <;> omega), ?_⟩
  refine ⟨⟨by decide, by (refine ⟨?_, ?_⟩ <;> omega)⟩, ?_⟩
  refine ⟨⟨by decide, by (refine ⟨?_, ?_⟩ <;> omega)⟩, ?_⟩
  refine ⟨by (refine ⟨?_, ?_⟩ <;> omega), ?_⟩
  rw [tdv, tmv, tdw, tmw]
  refine ⟨⟨by (refine ⟨?_, ?_⟩ <;> omega), Nat.le_of_ble_eq_true rfl⟩, ?_⟩
  refine ⟨⟨by (refine ⟨?_, ?_⟩ <;> omega), Nat.le_of_ble_eq_true rfl⟩, ?_⟩
  refine ⟨Nat.le_of_ble_eq_true rfl, ?_⟩
  have en : (if (if w % 12 - v % 12 < 0 then -(w % 12 - v % 12) else w % 12 - v % 12) < (if w / 12 - v / 12 < 0 then -(w / 12 - v / 12) else w / 12 - v / 12) then (if w / 12 - v / 12 < 0 then -(w / 12 - v / 12) else w / 12 - v / 12) else (if w % 12 - v % 12 < 0 then -(w % 12 - v % 12) else w % 12 - v % 12)) = nn v w := by
    unfold nn ab
    repeat' split
    all_goals omega
  rw [en]
  exact L_inSight hG hB hRW hv hh hc hd hQ 12 1 none none none (by omega) (fun j j1 j2 => by omega)
theorem L_cellsInSight {G : amG} {I : Nat → Nat → Int} {R : Nat → Nat → Option Nat} {L : Nat → Nat → Int64} {x : Nat} {Q : amR → amH → Prop} (hG : amG0 G) {b : Nat} (hB : wb b) (hRW : RW R b) {z : Row} (hv : HV I b z) (hh : wfH z) {v : Int} (hc : isC v) (hQ : ∀ r : Int, r = sfN z v 96 → Q (Sum.inl (some (aI r))) (I, R, L, (SH sT), x, 0, 0)) :
    ∀ (n : Nat) (j s : Int), (0 ≤ j ∧ j ≤ 96 ∧ 96 - j < n) → s = sfN z v j.toNat → X G mX5_cellsInSight Q 4 [some (aR (some (b + 1))), some (aI v), some (aI s), some (aI j)] [] (I, R, L, (SH sT), x, 0, 0) := by
  intro n
  induction n with
  | zero =>
    intros
    exfalso; omega
  | succ n ih =>
    intro j s h1 hs
    have hb := sfN_b z v j.toNat
    have he : sfN z v (j.toNat + 1) = sfN z v j.toNat + seeI z v (j.toNat : Nat) := rfl
    rw [Int.toNat_of_nonneg h1.1] at he
    refine B_X5_cellsInSight_4 ?_
    try dsimp only
    try simp (disch := omega) only [hv]
    refine ⟨fun c7_0 => ?_, fun c7_0 => ?_⟩
    · refine B_X5_cellsInSight_28 ?_
      try dsimp only
      try simp (disch := omega) only [hv]
      refine hQ _ ?_
      rw [hs]
      congr 1
      omega
    · refine ⟨⟨Nat.zero_le _, Nat.zero_le _, Nat.le_of_ble_eq_true rfl⟩, sw1 hB, ?_⟩
      refine D_inSight hG hB hRW hv hh hc (by unfold isC; omega) (fun r2 hr2 => ?_)
      have hs4 : (seeI z v j = 1 ∧ r2 = 1) ∨ (seeI z v j = 0 ∧ r2 = 0) := hr2.imp (fun q => ⟨seeI_one q.1, q.2⟩) (fun q => ⟨seeI_zero q.1, q.2⟩)
      refine af_I0 rfl rfl (by decide) ?_
      try dsimp only
      try simp (disch := omega) only [hv]
      refine B_X5_cellsInSight_16 ?_
      try dsimp only
      try simp (disch := omega) only [hv]
      refine ⟨fun c16_1 => ?_, fun c16_1 => ?_⟩
      · refine B_X5_cellsInSight_22 ?_
        try dsimp only
        try simp (disch := omega) only [hv]
        refine ⟨by (refine ⟨?_, ?_⟩ <;> omega), ?_⟩
        refine ih (j + 1) _ (by omega) ?_
        rw [show (j + 1).toNat = j.toNat + 1 by omega, he]
        omega
      · refine ⟨by (refine ⟨?_, ?_⟩ <;> omega), ?_⟩
        refine B_X5_cellsInSight_22 ?_
        try dsimp only
        try simp (disch := omega) only [hv]
        refine ⟨by (refine ⟨?_, ?_⟩ <;> omega), ?_⟩
        refine ih (j + 1) _ (by omega) ?_
        rw [show (j + 1).toNat = j.toNat + 1 by omega, he]
        omega
theorem D_cellsInSight {G : amG} {I : Nat → Nat → Int} {R : Nat → Nat → Option Nat} {L : Nat → Nat → Int64} {x c t : Nat} {Q : amR → amH → Prop} (hG : amG0 G) {b : Nat} (hB : wb b) (hRW : RW R b) {z : Row} (hv : HV I b z) (hh : wfH z) {v : Int} (hc : isC v) (hQ : ∀ r : Int, r = sfN z v 96 → Q (Sum.inl (some (aI r))) (I, R, L, (SH sT), x, 0, 0)) : CT G sX5_cellsInSight [aR (some (b + 1)), aI v] (I, R, L, (SH sT), x, c, t) Q := by
  refine CT_of ok_X5_cellsInSight hG (Nat.le_of_ble_eq_true rfl) ?_
  show X G mX5_cellsInSight Q 0 _ [] (I, R, L, (SH sT), x, 0, 0)
  refine B_X5_cellsInSight_0 ?_
  try dsimp only
  exact L_cellsInSight hG hB hRW hv hh hc hQ 97 0 0 (by omega) rfl
