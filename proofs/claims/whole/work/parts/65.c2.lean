theorem D_between {G : amG} {h : amH} {Q : amR → amH → Prop} (hG : amG0 G) {s d k n : Int} (hn : 1 ≤ n ∧ n ≤ 11) (hk : 0 ≤ k ∧ k ≤ n) (hs : 0 ≤ s ∧ s ≤ 11) (hd : 0 ≤ s + d ∧ s + d ≤ 11) (hQ : Q (Sum.inl (some (aI (pt n s d k)))) (hGive h 0 0)) : CT G sX5_between [aI s, aI d, aI k, aI n] h Q := by
  refine CT_of ok_X5_between hG (Nat.le_of_ble_eq_true rfl) ?_
  show X G mX5_between Q 0 _ [] (h.1, h.2.1, h.2.2.1, h.2.2.2.1, h.2.2.2.2.1, 0, 0)
  have q1 := pt_sum (n := n) (a := s) (d := d) (k := k) (M := 11) hk hs hd
  have q3 := pt_b (n := n) (a := s) (d := d) (k := k) (M := 11) hn.1 hk hs hd
  have q5 : Int.tdiv (2 * (n * s + k * d) + n) (2 * n) = pt n s d k := Int.tdiv_eq_ediv_of_nonneg (by omega)
  have q7 := mulb (a := n) (b := s) (A := 11) (B := 11) (by omega) hs
  refine B_X5_between_0 ?_
  try dsimp only
  refine ⟨fun c2_0 => ?_, fun c2_0 => ?_⟩
  · refine B_X5_between_9 ?_
    try dsimp only
    refine ⟨by (refine ⟨?_, ?_⟩ <;> omega), ?_⟩
    refine ⟨by (refine ⟨?_, ?_⟩ <;> omega), ?_⟩
    refine ⟨by (refine ⟨?_, ?_⟩ <;> omega), ?_⟩
    refine ⟨by (refine ⟨?_, ?_⟩ <;> omega), ?_⟩
    refine ⟨by (refine ⟨?_, ?_⟩ <;> omega), ?_⟩
    refine ⟨by (refine ⟨?_, ?_⟩ <;> omega), ?_⟩
    refine ⟨⟨by omega, by (refine ⟨?_, ?_⟩ <;> omega)⟩, ?_⟩
    refine B_X5_between_24 ?_
    try dsimp only
    first
      | (exfalso; omega)
      | (rw [q5]; exact hQ)
  · refine B_X5_between_24 ?_
    try dsimp only
    first
      | (exfalso; omega)
      | (rw [q5]; exact hQ)
theorem L_inSight {G : amG} {I : Nat → Nat → Int} {R : Nat → Nat → Option Nat} {L : Nat → Nat → Int64} {x : Nat} {Q : amR → amH → Prop} (hG : amG0 G) {b : Nat} (hB : wb b) (hRW : RW R b) {z : Row} (hv : HV I b z) (hh : wfH z) {v w : Int} (hc : isC v) (hd : isC w) (hQ : ∀ r : Int, ((seeU z v w) ∧ r = 1) ∨ (¬ (seeU z v w) ∧ r = 0) → Q (Sum.inl (some (aI r))) (I, R, L, SH, x, 0, 0)) :
    ∀ (n : Nat) (k : Int) (l7 l8 l9 : Option amV), (1 ≤ k ∧ k ≤ 12 ∧ 12 - k < n) → (∀ j : Int, 1 ≤ j → j < k → seeK z v w j) → X G mX5_inSight Q 38 [some (aR (some (b + 1))), some (aI v), some (aI w), some (aI (w % 12 - v % 12)), some (aI (w / 12 - v / 12)), some (aI (nn v w)), some (aI k), l7, l8, l9] [] (I, R, L, SH, x, 0, 0) := by
  intro n
  induction n with
  | zero =>
    intros
    exfalso; omega
  | succ n ih =>
    intro k l7 l8 l9 h1 hs
    unfold isC at hc hd
    have n0 : 0 ≤ nn v w ∧ nn v w ≤ 11 := nn_b hc hd
    have za := hh v.toNat (by omega)
    have zb := hh w.toNat (by omega)
    have tdv : v.tdiv 12 = v / 12 := Int.tdiv_eq_ediv_of_nonneg (by omega)
    have tmv : v.tmod 12 = v % 12 := Int.tmod_eq_emod_of_nonneg (by omega)
    refine B_X5_inSight_38 ?_
    try dsimp only
    (try simp (disch := omega) only [hv, tdv, tmv])
    refine ⟨fun c42_0 => ?_, fun c42_0 => ?_⟩
    · refine B_X5_inSight_131 ?_
      try dsimp only
      (try simp (disch := omega) only [hv, tdv, tmv])
      refine ⟨by first | exact Or.inl rfl | exact Or.inr rfl | exact Or.inl trivial | exact Or.inr trivial | omega, ?_⟩
      refine hQ _ ?_
      first
        | exact Or.inr ⟨fun u => by have u1 := u k (by omega) (by omega); unfold seeK at u1; omega, rfl⟩
        | exact Or.inl ⟨fun j j1 j2 => hs j j1 (by omega), rfl⟩
    · have q3 := pt_b (n := nn v w) (a := v % 12) (d := w % 12 - v % 12) (k := k) (M := 11) (by omega) (by omega) (by omega) (by omega)
      have q4 := pt_b (n := nn v w) (a := v / 12) (d := w / 12 - v / 12) (k := k) (M := 7) (by omega) (by omega) (by omega) (by omega)
      have zp := hh (12 * pt (nn v w) (v / 12) (w / 12 - v / 12) k + pt (nn v w) (v % 12) (w % 12 - v % 12) k).toNat (by omega)
      have q9 := mulb (A := 9) (B := 11) zp n0
      have q10 := mulb (a := z v.toNat + 1) (b := nn v w - k) (A := 10) (B := 11) (by omega) (by omega)
      have q11 := mulb (a := z w.toNat + 1) (b := k) (A := 10) (B := 11) (by omega) (by omega)
      refine ⟨⟨by decide, by (refine ⟨?_, ?_⟩ <;> omega)⟩, ?_⟩
      refine ⟨⟨Nat.zero_le _, Nat.zero_le _, Nat.le_of_ble_eq_true rfl⟩, trivial, ?_⟩
      refine D_between hG (by omega) (by omega) (by omega) (by omega) ?_
      refine af_I0 rfl rfl (by decide) ?_
      try dsimp only
      (try simp (disch := omega) only [hv, tdv, tmv])
      refine B_X5_inSight_57 ?_
      try dsimp only
      (try simp (disch := omega) only [hv, tdv, tmv])
      refine ⟨⟨by decide, by (refine ⟨?_, ?_⟩ <;> omega)⟩, ?_⟩
      refine ⟨⟨Nat.zero_le _, Nat.zero_le _, Nat.le_of_ble_eq_true rfl⟩, trivial, ?_⟩
      refine D_between hG (by omega) (by omega) (by omega) (by omega) ?_
      refine af_I0 rfl rfl (by decide) ?_
      try dsimp only
      (try simp (disch := omega) only [hv, tdv, tmv])
      refine B_X5_inSight_72 ?_
      try dsimp only
      (try simp (disch := omega) only [hv, tdv, tmv])
      refine ⟨sw1 hB, _, hRW.ht, ?_⟩
      refine ⟨_, sw2 hB, ⟨by omega, by omega⟩, ?_⟩
      (try simp (disch := omega) only [hv, tdv, tmv])
      refine ⟨by (refine ⟨?_, ?_⟩ <;> omega), ?_⟩
      refine ⟨by (refine ⟨?_, ?_⟩ <;> omega), ?_⟩
      refine ⟨by (refine ⟨?_, ?_⟩ <;> omega), ?_⟩
      refine ⟨sw1 hB, _, hRW.ht, ?_⟩
      refine ⟨_, sw2 hB, ⟨by omega, by omega⟩, ?_⟩
      (try simp (disch := omega) only [hv, tdv, tmv])
      refine ⟨by (refine ⟨?_, ?_⟩ <;> omega), ?_⟩
      refine ⟨by (refine ⟨?_, ?_⟩ <;> omega), ?_⟩
      refine ⟨by (refine ⟨?_, ?_⟩ <;> omega), ?_⟩
      refine ⟨sw1 hB, _, hRW.ht, ?_⟩
      refine ⟨by (refine ⟨?_, ?_⟩ <;> omega), ?_⟩
      refine ⟨by (refine ⟨?_, ?_⟩ <;> omega), ?_⟩
      refine ⟨_, sw2 hB, ⟨by omega, by omega⟩, ?_⟩
      (try simp (disch := omega) only [hv, tdv, tmv])
      refine ⟨by (refine ⟨?_, ?_⟩ <;> omega), ?_⟩
      refine ⟨fun c120_2 => ?_, fun c120_2 => ?_⟩
      · refine B_X5_inSight_125 ?_
        try dsimp only
        (try simp (disch := omega) only [hv, tdv, tmv])
        refine ⟨by (refine ⟨?_, ?_⟩ <;> omega), ?_⟩
        refine ih (k + 1) _ _ _ (by omega) (fun j j1 j2 => ?_)
        rcases Int.lt_or_le j k with z1 | z1
        · exact hs j j1 z1
        · have e : j = k := by omega
          rw [e]
          unfold seeK
          omega
      · refine ⟨by first | exact Or.inl rfl | exact Or.inr rfl | exact Or.inl trivial | exact Or.inr trivial | omega, ?_⟩
        refine hQ _ ?_
        first
          | exact Or.inr ⟨fun u => by have u1 := u k (by omega) (by omega); unfold seeK at u1; omega, rfl⟩
          | exact Or.inl ⟨fun j j1 j2 => hs j j1 (by omega), rfl⟩
theorem D_inSight {G : amG} {I : Nat → Nat → Int} {R : Nat → Nat → Option Nat} {L : Nat → Nat → Int64} {x c t : Nat} {Q : amR → amH → Prop} (hG : amG0 G) {b : Nat} (hB : wb b) (hRW : RW R b) {z : Row} (hv : HV I b z) (hh : wfH z) {v w : Int} (hc : isC v) (hd : isC w) (hQ : ∀ r : Int, ((seeU z v w) ∧ r = 1) ∨ (¬ (seeU z v w) ∧ r = 0) → Q (Sum.inl (some (aI r))) (I, R, L, SH, x, 0, 0)) : CT G sX5_inSight [aR (some (b + 1)), aI v, aI w] (I, R, L, SH, x, c, t) Q := by
  refine CT_of ok_X5_inSight hG (Nat.le_of_ble_eq_true rfl) ?_
  show X G mX5_inSight Q 0 _ [] (I, R, L, SH, x, 0, 0)
  have hc' : 0 ≤ v ∧ v < 96 := hc
  have hd' : 0 ≤ w ∧ w < 96 := hd
  have tdv : v.tdiv 12 = v / 12 := Int.tdiv_eq_ediv_of_nonneg (by omega)
  have tmv : v.tmod 12 = v % 12 := Int.tmod_eq_emod_of_nonneg (by omega)
  have tdw : w.tdiv 12 = w / 12 := Int.tdiv_eq_ediv_of_nonneg (by omega)
  have tmw : w.tmod 12 = w % 12 := Int.tmod_eq_emod_of_nonneg (by omega)
  refine B_X5_inSight_0 ?_
  try dsimp only
  refine ⟨⟨by decide, by (refine ⟨?_, ?_⟩ <;> omega)⟩, ?_⟩
  refine ⟨⟨by decide, by (refine ⟨?_, ?_⟩ <;> omega)⟩, ?_⟩
  refine ⟨by (refine ⟨?_, ?_⟩ <;> omega), ?_⟩
  refine ⟨⟨by decide, by (refine ⟨?_, ?_⟩ <;> omega)⟩, ?_⟩
  refine ⟨⟨by decide, by (refine ⟨?_, ?_⟩ <;> omega)⟩, ?_⟩
  refine ⟨by (refine ⟨?_, ?_⟩ <;> omega), ?_⟩
  rw [tdv, tmv, tdw, tmw]
  refine ⟨⟨by (refine ⟨?_, ?_⟩ <;> omega), Nat.le_of_ble_eq_true rfl⟩, ?_⟩
  refine ⟨⟨by (refine ⟨?_, ?_⟩ <;> omega), Nat.le_of_ble_eq_true rfl⟩, ?_⟩
  refine ⟨Nat.le_of_ble_eq_true rfl, ?_⟩
  have en : (if (if w % 12 - v % 12 < 0 then -(w % 12 - v % 12) else w % 12 - v % 12) < (if w / 12 - v / 12 < 0 then -(w / 12 - v / 12) else w / 12 - v / 12) then (if w / 12 - v / 12 < 0 then -(w / 12 - v / 12) else w / 12 - v / 12) else (if w % 12 - v % 12 < 0 then -(w % 12 - v % 12) else w % 12 - v % 12)) = nn v w := by
    unfold nn ab
    repeat' split
    all_goals omega
  rw [en]
  exact L_inSight hG hB hRW hv hh hc hd hQ 12 1 none none none (by omega) (fun j j1 j2 => by omega)
theorem L_cellsInSight {G : amG} {I : Nat → Nat → Int} {R : Nat → Nat → Option Nat} {L : Nat → Nat → Int64} {x : Nat} {Q : amR → amH → Prop} (hG : amG0 G) {b : Nat} (hB : wb b) (hRW : RW R b) {z : Row} (hv : HV I b z) (hh : wfH z) {v : Int} (hc : isC v) (hQ : ∀ r : Int, r = sfN z v 96 → Q (Sum.inl (some (aI r))) (I, R, L, SH, x, 0, 0)) :
    ∀ (n : Nat) (j s : Int), (0 ≤ j ∧ j ≤ 96 ∧ 96 - j < n) → s = sfN z v j.toNat → X G mX5_cellsInSight Q 4 [some (aR (some (b + 1))), some (aI v), some (aI s), some (aI j)] [] (I, R, L, SH, x, 0, 0) := by
  intro n
  induction n with
  | zero =>
    intros
    exfalso; omega
  | succ n ih =>
    intro j s h1 hs
    have hb := sfN_b z v j.toNat
    have he : sfN z v (j.toNat + 1) = sfN z v j.toNat + seeI z v (j.toNat : Nat) := rfl
    rw [Int.toNat_of_nonneg h1.1] at he
    refine B_X5_cellsInSight_4 ?_
    try dsimp only
    try simp (disch := omega) only [hv]
    refine ⟨fun c7_0 => ?_, fun c7_0 => ?_⟩
    · refine B_X5_cellsInSight_28 ?_
      try dsimp only
      try simp (disch := omega) only [hv]
      refine hQ _ ?_
      rw [hs]
      congr 1
      omega
    · refine ⟨⟨Nat.zero_le _, Nat.zero_le _, Nat.le_of_ble_eq_true rfl⟩, sw1 hB, ?_⟩
      refine D_inSight hG hB hRW hv hh hc (by unfold isC; omega) (fun r2 hr2 => ?_)
      have hs4 : (seeI z v j = 1 ∧ r2 = 1) ∨ (seeI z v j = 0 ∧ r2 = 0) := hr2.imp (fun q => ⟨seeI_one q.1, q.2⟩) (fun q => ⟨seeI_zero q.1, q.2⟩)
      refine af_I0 rfl rfl (by decide) ?_
      try dsimp only
      try simp (disch := omega) only [hv]
      refine B_X5_cellsInSight_16 ?_
      try dsimp only
      try simp (disch := omega) only [hv]
      refine ⟨fun c16_1 => ?_, fun c16_1 => ?_⟩
      · refine B_X5_cellsInSight_22 ?_
        try dsimp only
        try simp (disch := omega) only [hv]
        refine ⟨by (refine ⟨?_, ?_⟩ <;> omega), ?_⟩
        refine ih (j + 1) _ (by omega) ?_
        rw [show (j + 1).toNat = j.toNat + 1 by omega, he]
        omega
      · refine ⟨by (refine ⟨?_, ?_⟩ <;> omega), ?_⟩
        refine B_X5_cellsInSight_22 ?_
        try dsimp only
        try simp (disch := omega) only [hv]
        refine ⟨by (refine ⟨?_, ?_⟩ <;> omega), ?_⟩
        refine ih (j + 1) _ (by omega) ?_
        rw [show (j + 1).toNat = j.toNat + 1 by omega, he]
        omega
theorem D_cellsInSight {G : amG} {I : Nat → Nat → Int} {R : Nat → Nat → Option Nat} {L : Nat → Nat → Int64} {x c t : Nat} {Q : amR → amH → Prop} (hG : amG0 G) {b : Nat} (hB : wb b) (hRW : RW R b) {z : Row} (hv : HV I b z) (hh : wfH z) {v : Int} (hc : isC v) (hQ : ∀ r : Int, r = sfN z v 96 → Q (Sum.inl (some (aI r))) (I, R, L, SH, x, 0, 0)) : CT G sX5_cellsInSight [aR (some (b + 1)), aI v] (I, R, L, SH, x, c, t) Q := by
  refine CT_of ok_X5_cellsInSight hG (Nat.le_of_ble_eq_true rfl) ?_
  show X G mX5_cellsInSight Q 0 _ [] (I, R, L, SH, x, 0, 0)
  refine B_X5_cellsInSight_0 ?_
  try dsimp only
  exact L_cellsInSight hG hB hRW hv hh hc hQ 97 0 0 (by omega) rfl
