/-! ===== the class: sums for the digest ===== -/
theorem D_mix {G : amG} {h : amH} {Q : amR → amH → Prop} (hG : amG0 G) {u v : Int64} (hQ : Q (Sum.inl (some (aL (mx u v)))) (hGive h 0 0)) : CT G sX9_mix [aL u, aL v] h Q := by
  refine CT_of ok_X9_mix hG (Nat.le_of_ble_eq_true rfl) ?_
  show X G mX9_mix Q 0 _ [] (h.1, h.2.1, h.2.2.1, h.2.2.2.1, h.2.2.2.2.1, 0, 0)
  refine B_X9_mix_0 ?_
  try dsimp only
  refine ⟨rfl, ?_⟩
  exact hQ
theorem L_mixCounts {G : amG} {I : Nat → Nat → Int} {R : Nat → Nat → Option Nat} {L : Nat → Nat → Int64} {x : Nat} {Q : amR → amH → Prop} (hG : amG0 G) (hRK : RK R) {z : Row} {n : Int} {zs : Nat → Row} (hC : CS I R z n zs) (hZ : ZF z) {s0 u : Int64} (hQ : Q (Sum.inl (some (aL (mxN (F1 z n) u 14)))) (I, R, L, SH, x, 0, 0)) :
    ∀ (n_ : Nat) (j : Int), (0 ≤ j ∧ j ≤ 14 ∧ 14 - j < n_) → X G mX9_mixCounts Q 5 [some (aR (some 0)), some (aL s0), none, some (aL (mxN (F1 z n) u j.toNat)), none, some (aI j)] [] (I, R, L, SH, x, 0, 0) := by
  intro n_
  induction n_ with
  | zero =>
    intros
    exfalso; omega
  | succ n_ ih =>
    intro j h1
    have hs := mxN_s (F1 z n) u j.toNat
    refine B_X9_mixCounts_5 ?_
    try dsimp only
    refine ⟨fun c9_0 => ?_, fun c9_0 => ?_⟩
    · refine B_X9_mixCounts_30 ?_
      try dsimp only
      refine ⟨rfl, ?_⟩
      rw [show j.toNat = 14 by omega]
      exact hQ
    · refine ⟨⟨Nat.zero_le _, Nat.zero_le _, Nat.le_of_ble_eq_true rfl⟩, so0, ?_⟩
      refine D_countNow hG hRK hC hZ (by omega) ?_
      refine af_I0 rfl rfl (by decide) ?_
      try dsimp only
      refine B_X9_mixCounts_19 ?_
      try dsimp only
      refine ⟨⟨Nat.zero_le _, Nat.zero_le _, Nat.le_of_ble_eq_true rfl⟩, trivial, ?_⟩
      refine D_mix hG ?_
      refine af_I0 rfl rfl (by decide) ?_
      try dsimp only
      refine B_X9_mixCounts_23 ?_
      try dsimp only
      refine ⟨by (refine ⟨?_, ?_⟩ <;> omega), ?_⟩
      have e := ih (j + 1) (by omega)
      rw [show (j + 1).toNat = j.toNat + 1 by omega, hs] at e
      have ef : F1 z n j.toNat = if j = 13 then n else cntZ z j := by
        show (if ((j.toNat : Nat) : Int) = 13 then n else cntZ z (j.toNat : Nat)) = _
        rw [show ((j.toNat : Nat) : Int) = j by omega]
      rw [ef] at e
      exact e
theorem D_mixCounts {G : amG} {I : Nat → Nat → Int} {R : Nat → Nat → Option Nat} {L : Nat → Nat → Int64} {x c t : Nat} {Q : amR → amH → Prop} (hG : amG0 G) (hRK : RK R) {z : Row} {n : Int} {zs : Nat → Row} (hC : CS I R z n zs) (hZ : ZF z) {u : Int64} (hQ : Q (Sum.inl (some (aL (mxN (F1 z n) u 14)))) (I, R, L, SH, x, 0, 0)) : CT G sX9_mixCounts [aR (some 0), aL u] (I, R, L, SH, x, c, t) Q := by
  refine CT_of ok_X9_mixCounts hG (Nat.le_of_ble_eq_true rfl) ?_
  show X G mX9_mixCounts Q 0 _ [] (I, R, L, SH, x, 0, 0)
  refine B_X9_mixCounts_0 ?_
  try dsimp only
  exact L_mixCounts hG hRK hC hZ hQ 15 0 (by omega)
theorem L_mixCellsB {G : amG} {I : Nat → Nat → Int} {R : Nat → Nat → Option Nat} {L : Nat → Nat → Int64} {x : Nat} {Q : amR → amH → Prop} (hG : amG0 G) (hRK : RK R) {z : Row} {n : Int} {zs : Nat → Row} (hC : CS I R z n zs) (hZ : ZF z) {s0 u : Int64} {k : Int} (hk : 0 ≤ k ∧ k < 96) (hK : X G mX9_mixCells Q 44 [some (aR (some 0)), some (aL s0), none, some (aL (mxN (F2 z) u (3 * k + 3).toNat)), none, some (aI k), some (aI 3)] [] (I, R, L, SH, x, 0, 0)) :
    ∀ (n_ : Nat) (j : Int), (0 ≤ j ∧ j ≤ 3 ∧ 3 - j < n_) → X G mX9_mixCells Q 15 [some (aR (some 0)), some (aL s0), none, some (aL (mxN (F2 z) u (3 * k + j).toNat)), none, some (aI k), some (aI j)] [] (I, R, L, SH, x, 0, 0) := by
  intro n_
  induction n_ with
  | zero =>
    intros
    exfalso; omega
  | succ n_ ih =>
    intro j h1
    have hs := mxN_s (F2 z) u (3 * k + j).toNat
    refine B_X9_mixCells_15 ?_
    try dsimp only
    refine ⟨fun c18_0 => ?_, fun c18_0 => ?_⟩
    · have e : j = 3 := by omega
      rw [e]
      exact hK
    · refine ⟨so0, _, (by first | exact hRK2.x.1 | exact hRK.x.1), ?_⟩
      refine ⟨⟨Nat.zero_le _, Nat.zero_le _, Nat.le_of_ble_eq_true rfl⟩, sw0 w1, ?_⟩
      refine D_cellFigure hG w1 (hRK.w w1) hC.1 hZ.1.1 (by unfold isC; omega) (by omega) ?_
      refine af_I0 rfl rfl (by decide) ?_
      try dsimp only
      refine B_X9_mixCells_33 ?_
      try dsimp only
      refine ⟨⟨Nat.zero_le _, Nat.zero_le _, Nat.le_of_ble_eq_true rfl⟩, trivial, ?_⟩
      refine D_mix hG ?_
      refine af_I0 rfl rfl (by decide) ?_
      try dsimp only
      refine B_X9_mixCells_37 ?_
      try dsimp only
      refine ⟨by (refine ⟨?_, ?_⟩ <;> omega), ?_⟩
      have e := ih (j + 1) (by omega)
      rw [show (3 * k + (j + 1)).toNat = (3 * k + j).toNat + 1 by omega, hs] at e
      have ef : F2 z (3 * k + j).toNat = ceN z k j := by
        show ceN z ((((3 * k + j).toNat : Nat) : Int) / 3) ((((3 * k + j).toNat : Nat) : Int) % 3) = _
        rw [show (((3 * k + j).toNat : Nat) : Int) = 3 * k + j by omega, show (3 * k + j) / 3 = k by omega, show (3 * k + j) % 3 = j by omega]
      rw [ef] at e
      exact e
theorem L_mixCells {G : amG} {I : Nat → Nat → Int} {R : Nat → Nat → Option Nat} {L : Nat → Nat → Int64} {x : Nat} {Q : amR → amH → Prop} (hG : amG0 G) (hRK : RK R) {z : Row} {n : Int} {zs : Nat → Row} (hC : CS I R z n zs) (hZ : ZF z) {s0 u : Int64} (hQ : Q (Sum.inl (some (aL (mxN (F2 z) u 288)))) (I, R, L, SH, x, 0, 0)) :
    ∀ (n_ : Nat) (k : Int) (l6 : Option amV), (0 ≤ k ∧ k ≤ 96 ∧ 96 - k < n_) → X G mX9_mixCells Q 5 [some (aR (some 0)), some (aL s0), none, some (aL (mxN (F2 z) u (3 * k).toNat)), none, some (aI k), l6] [] (I, R, L, SH, x, 0, 0) := by
  intro n_
  induction n_ with
  | zero =>
    intros
    exfalso; omega
  | succ n_ ih =>
    intro k l6 h1
    refine B_X9_mixCells_5 ?_
    try dsimp only
    refine ⟨fun c9_0 => ?_, fun c9_0 => ?_⟩
    · refine B_X9_mixCells_50 ?_
      try dsimp only
      refine ⟨rfl, ?_⟩
      rw [show (3 * k).toNat = 288 by omega]
      exact hQ
    · rw [show (3 * k).toNat = (3 * k + 0).toNat by rw [Int.add_zero]]
      refine L_mixCellsB hG hRK hC hZ (k := k) (by omega) ?_ 4 0 (by omega)
      refine B_X9_mixCells_44 ?_
      try dsimp only
      refine ⟨by (refine ⟨?_, ?_⟩ <;> omega), ?_⟩
      have e := ih (k + 1) (some (aI 3)) (by omega)
      rw [show 3 * (k + 1) = 3 * k + 3 by omega] at e
      exact e
theorem D_mixCells {G : amG} {I : Nat → Nat → Int} {R : Nat → Nat → Option Nat} {L : Nat → Nat → Int64} {x c t : Nat} {Q : amR → amH → Prop} (hG : amG0 G) (hRK : RK R) {z : Row} {n : Int} {zs : Nat → Row} (hC : CS I R z n zs) (hZ : ZF z) {u : Int64} (hQ : Q (Sum.inl (some (aL (mxN (F2 z) u 288)))) (I, R, L, SH, x, 0, 0)) : CT G sX9_mixCells [aR (some 0), aL u] (I, R, L, SH, x, c, t) Q := by
  refine CT_of ok_X9_mixCells hG (Nat.le_of_ble_eq_true rfl) ?_
  show X G mX9_mixCells Q 0 _ [] (I, R, L, SH, x, 0, 0)
  refine B_X9_mixCells_0 ?_
  try dsimp only
  exact L_mixCells hG hRK hC hZ hQ 97 0 none (by omega)
theorem L_mixOrdersB {G : amG} {I : Nat → Nat → Int} {R : Nat → Nat → Option Nat} {L : Nat → Nat → Int64} {x : Nat} {Q : amR → amH → Prop} (hG : amG0 G) (hRK : RK R) {z : Row} {n : Int} {zs : Nat → Row} (hC : CS I R z n zs) (hZ : ZF z) {s0 u : Int64} {k : Int} (hk : 0 ≤ k ∧ k < z 195) (hK : X G mX9_mixOrders Q 53 [some (aR (some 0)), some (aL s0), none, some (aL (mxN (F4 z) u (4 * k + 4).toNat)), none, some (aI k), some (aI 4)] [] (I, R, L, SH, x, 0, 0)) :
    ∀ (n_ : Nat) (j : Int), (0 ≤ j ∧ j ≤ 4 ∧ 4 - j < n_) → X G mX9_mixOrders Q 20 [some (aR (some 0)), some (aL s0), none, some (aL (mxN (F4 z) u (4 * k + j).toNat)), none, some (aI k), some (aI j)] [] (I, R, L, SH, x, 0, 0) := by
  intro n_
  induction n_ with
  | zero =>
    intros
    exfalso; omega
  | succ n_ ih =>
    intro j h1
    have hn1 := hZ.1.1.2.1.1
    have hn2 := hZ.1.1.2.1.2
    have hzo := hZ.1.2.1.1
    have h0C := hZ.1.2.2.1
    have hzm := hZ.2.1
    have hs := mxN_s (F4 z) u (4 * k + j).toNat
    refine B_X9_mixOrders_20 ?_
    try dsimp only
    refine ⟨fun c23_0 => ?_, fun c23_0 => ?_⟩
    · have e : j = 4 := by omega
      rw [e]
      exact hK
    · refine ⟨so0, _, (by first | exact hRK2.x.1 | exact hRK.x.1), ?_⟩
      refine ⟨sw0 w1, _, (by first | exact (hRK2.w w1).orr | exact (hRK.w w1).orr), ?_⟩
      refine ⟨_, _, sw5 w1, ⟨by decide, by decide⟩, ⟨by omega, by omega⟩, _, (by first | exact (hRK2.w w1).o (by omega) | exact (hRK.w w1).o (by omega)), ?_⟩
      refine ⟨⟨Nat.zero_le _, Nat.zero_le _, Nat.le_of_ble_eq_true rfl⟩, swO w1 (by omega), ?_⟩
      refine D_figureO hG w1 (k := k.toNat) (by omega) (w := j) (by omega) ?_
      refine af_I0 rfl rfl (by decide) ?_
      try dsimp only
      refine B_X9_mixOrders_42 ?_
      try dsimp only
      refine ⟨⟨Nat.zero_le _, Nat.zero_le _, Nat.le_of_ble_eq_true rfl⟩, trivial, ?_⟩
      refine D_mix hG ?_
      refine af_I0 rfl rfl (by decide) ?_
      try dsimp only
      refine B_X9_mixOrders_46 ?_
      try dsimp only
      refine ⟨by (refine ⟨?_, ?_⟩ <;> omega), ?_⟩
      have e := ih (j + 1) (by omega)
      rw [show (4 * k + (j + 1)).toNat = (4 * k + j).toNat + 1 by omega, hs] at e
      have ef : F4 z (4 * k + j).toNat = fig (odC I 1 k.toNat) j := by
        show uwZ z ((4 * k + j).toNat / 4) ((((4 * k + j).toNat : Nat) : Int) % 4) = _
        rw [show (((4 * k + j).toNat : Nat) : Int) = 4 * k + j by omega, show (4 * k + j).toNat / 4 = k.toNat by omega, show (4 * k + j) % 4 = j by omega]
        unfold uwZ
        rw [List.getD_eq_getElem?_getD, ← hC.2.1, oc_at (by omega)]
        rfl
      rw [ef] at e
      exact e
theorem L_mixOrders {G : amG} {I : Nat → Nat → Int} {R : Nat → Nat → Option Nat} {L : Nat → Nat → Int64} {x : Nat} {Q : amR → amH → Prop} (hG : amG0 G) (hRK : RK R) {z : Row} {n : Int} {zs : Nat → Row} (hC : CS I R z n zs) (hZ : ZF z) {s0 u : Int64} (hQ : Q (Sum.inl (some (aL (mxN (F4 z) u (4 * z 195).toNat)))) (I, R, L, SH, x, 0, 0)) :
    ∀ (n_ : Nat) (k : Int) (l6 : Option amV), (0 ≤ k ∧ k ≤ z 195 ∧ z 195 - k < n_) → X G mX9_mixOrders Q 5 [some (aR (some 0)), some (aL s0), none, some (aL (mxN (F4 z) u (4 * k).toNat)), none, some (aI k), l6] [] (I, R, L, SH, x, 0, 0) := by
  intro n_
  induction n_ with
  | zero =>
    intros
    exfalso; omega
  | succ n_ ih =>
    intro k l6 h1
    have hn1 := hZ.1.1.2.1.1
    have hn2 := hZ.1.1.2.1.2
    have hzo := hZ.1.2.1.1
    have h0C := hZ.1.2.2.1
    have hzm := hZ.2.1
    refine B_X9_mixOrders_5 ?_
    try dsimp only
    try simp (disch := omega) only [wO hC.1]
    refine ⟨so0, _, (by first | exact hRK2.x.1 | exact hRK.x.1), ?_⟩
    refine ⟨sw0 w1, ?_⟩
    try simp (disch := omega) only [wO hC.1]
    refine ⟨fun c14_0 => ?_, fun c14_0 => ?_⟩
    · refine B_X9_mixOrders_59 ?_
      try dsimp only
      try simp (disch := omega) only [wO hC.1]
      refine ⟨rfl, ?_⟩
      rw [show k = z 195 by omega]
      exact hQ
    · rw [show (4 * k).toNat = (4 * k + 0).toNat by rw [Int.add_zero]]
      refine L_mixOrdersB hG hRK hC hZ (k := k) (by omega) ?_ 5 0 (by omega)
      refine B_X9_mixOrders_53 ?_
      try dsimp only
      refine ⟨by (refine ⟨?_, ?_⟩ <;> omega), ?_⟩
      have e := ih (k + 1) (some (aI 4)) (by omega)
      rw [show 4 * (k + 1) = 4 * k + 4 by omega] at e
      exact e
theorem D_mixOrders {G : amG} {I : Nat → Nat → Int} {R : Nat → Nat → Option Nat} {L : Nat → Nat → Int64} {x c t : Nat} {Q : amR → amH → Prop} (hG : amG0 G) (hRK : RK R) {z : Row} {n : Int} {zs : Nat → Row} (hC : CS I R z n zs) (hZ : ZF z) {u : Int64} (hQ : Q (Sum.inl (some (aL (mxN (F4 z) u (4 * z 195).toNat)))) (I, R, L, SH, x, 0, 0)) : CT G sX9_mixOrders [aR (some 0), aL u] (I, R, L, SH, x, c, t) Q := by
  refine CT_of ok_X9_mixOrders hG (Nat.le_of_ble_eq_true rfl) ?_
  show X G mX9_mixOrders Q 0 _ [] (I, R, L, SH, x, 0, 0)
  have hn1 := hZ.1.1.2.1.1
  have hn2 := hZ.1.1.2.1.2
  have hzo := hZ.1.2.1.1
  have h0C := hZ.1.2.2.1
  have hzm := hZ.2.1
  refine B_X9_mixOrders_0 ?_
  try dsimp only
  exact L_mixOrders hG hRK hC hZ hQ 31 0 none (by omega)
theorem L_mixText {G : amG} {I : Nat → Nat → Int} {R : Nat → Nat → Option Nat} {L : Nat → Nat → Int64} {x : Nat} {Q : amR → amH → Prop} (hG : amG0 G) (hRK : RK R) {z : Row} {n : Int} {zs : Nat → Row} (hC : CS I R z n zs) (hZ : ZF z) {s0 u : Int64} {m : Int} (hm : I 346 1 = m) (hl : 0 ≤ m ∧ m ≤ 60) (hQ : Q (Sum.inl (some (aL (mxN (I 347) u m.toNat)))) (I, R, L, SH, x, 0, 0)) :
    ∀ (n_ : Nat) (j : Int), (0 ≤ j ∧ j ≤ m ∧ m - j < n_) → X G mX9_mixText Q 16 [some (aR (some 0)), some (aL s0), none, some (aL (mxN (I 347) u j.toNat)), none, some (aI j)] [] (I, R, L, SH, x, 0, 0) := by
  intro n_
  induction n_ with
  | zero =>
    intros
    exfalso; omega
  | succ n_ ih =>
    intro j h1
    have hs := mxN_s (I 347) u j.toNat
    refine B_X9_mixText_16 ?_
    try dsimp only
    try simp only [hm]
    refine ⟨so0, _, (by first | exact hRK2.x.2.2.2.1 | exact hRK.x.2.2.2.1), ?_⟩
    refine ⟨sx0, ?_⟩
    try simp only [hm]
    refine ⟨fun c25_0 => ?_, fun c25_0 => ?_⟩
    · refine B_X9_mixText_50 ?_
      try dsimp only
      try simp only [hm]
      refine ⟨rfl, ?_⟩
      rw [show j = m by omega]
      exact hQ
    · refine ⟨so0, _, (by first | exact hRK2.x.2.2.2.1 | exact hRK.x.2.2.2.1), ?_⟩
      refine ⟨sx0, _, (by first | exact hRK2.t.1 | exact hRK.t.1), ?_⟩
      refine ⟨_, sx1, ⟨by omega, by omega⟩, ?_⟩
      try simp only [hm]
      refine ⟨⟨Nat.zero_le _, Nat.zero_le _, Nat.le_of_ble_eq_true rfl⟩, trivial, ?_⟩
      refine D_mix hG ?_
      refine af_I0 rfl rfl (by decide) ?_
      try dsimp only
      try simp only [hm]
      refine B_X9_mixText_43 ?_
      try dsimp only
      try simp only [hm]
      refine ⟨by (refine ⟨?_, ?_⟩ <;> omega), ?_⟩
      have e := ih (j + 1) (by omega)
      rw [show (j + 1).toNat = j.toNat + 1 by omega, hs] at e
      exact e
theorem D_mixText {G : amG} {I : Nat → Nat → Int} {R : Nat → Nat → Option Nat} {L : Nat → Nat → Int64} {x c t : Nat} {Q : amR → amH → Prop} (hG : amG0 G) (hRK : RK R) {z : Row} {n : Int} {zs : Nat → Row} (hC : CS I R z n zs) (hZ : ZF z) {u : Int64} (hl : 0 ≤ I 346 1 ∧ I 346 1 ≤ 60) (hQ : Q (Sum.inl (some (aL (mxN (I 347) (mx u (Int64.ofInt (I 346 1))) (I 346 1).toNat)))) (I, R, L, SH, x, 0, 0)) : CT G sX9_mixText [aR (some 0), aL u] (I, R, L, SH, x, c, t) Q := by
  refine CT_of ok_X9_mixText hG (Nat.le_of_ble_eq_true rfl) ?_
  show X G mX9_mixText Q 0 _ [] (I, R, L, SH, x, 0, 0)
  refine B_X9_mixText_0 ?_
  try dsimp only
  refine ⟨so0, _, (by first | exact hRK2.x.2.2.2.1 | exact hRK.x.2.2.2.1), ?_⟩
  refine ⟨sx0, ?_⟩
  refine ⟨⟨Nat.zero_le _, Nat.zero_le _, Nat.le_of_ble_eq_true rfl⟩, trivial, ?_⟩
  refine D_mix hG ?_
  refine af_I0 rfl rfl (by decide) ?_
  try dsimp only
  refine B_X9_mixText_12 ?_
  try dsimp only
  exact L_mixText hG hRK hC hZ rfl hl hQ 61 0 (by omega)
