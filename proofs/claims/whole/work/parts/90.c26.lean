/-! ===== the class: what is asked ===== -/
theorem D_cell {G : amG} {I : Nat → Nat → Int} {R : Nat → Nat → Option Nat} {L : Nat → Nat → Int64} {x c t : Nat} {Q : amR → amH → Prop} (hG : amG0 G) (hRK : RK R) {z : Row} {n : Int} {zs : Nat → Row} (hC : CS I R z n zs) (hZ : ZF z) {v w : Int} (hT0 : ¬ (0 ≤ v ∧ v ≤ 95) → QW Q I L (Sum.inr 0) z n zs) (hT1 : (0 ≤ v ∧ v ≤ 95) ∧ ¬ (0 ≤ w ∧ w ≤ 3) → QW Q I L (Sum.inr 1) z n zs) (hQ : (0 ≤ v ∧ v ≤ 95) ∧ (0 ≤ w ∧ w ≤ 3) → QW Q I L (Sum.inl (some (aI (ceN z v w)))) z n zs) : CT G sX9_cell [aR (some 0), aI v, aI w] (I, R, L, SH, x, c, t) Q := by
  refine CT_of ok_X9_cell hG (Nat.le_of_ble_eq_true rfl) ?_
  show X G mX9_cell Q 0 _ [] (I, R, L, SH, x, 2, 12)
  have hn1 := hZ.1.1.2.1.1
  have hn2 := hZ.1.1.2.1.2
  have hzo := hZ.1.2.1.1
  have h0C := hZ.1.2.2.1
  have hzm := hZ.2.1
  refine B_X9_cell_0 ?_
  try dsimp only
  refine ⟨⟨by omega, by omega, Nat.le_of_ble_eq_true rfl⟩, trivial, ?_⟩
  refine D_needCell hG (fun hb c2 t2 => ?_) (fun hok1 c2 t2 => ?_)
  · refine af_X rfl (fun c3 t3 => ?_)
    exact hT0 hb I R _ _ _ (fun _ _ => rfl) rfl rfl hRK hC
  refine af_N (cc := 1) (tt := 6) rfl rfl rfl ?_
  try dsimp only
  refine B_X9_cell_4 ?_
  try dsimp only
  refine ⟨⟨by omega, by omega, Nat.le_of_ble_eq_true rfl⟩, trivial, ?_⟩
  refine D_needFigure hG (fun hb c2 t2 => ?_) (fun hok2 c2 t2 => ?_)
  · refine af_X rfl (fun c3 t3 => ?_)
    exact hT1 ⟨by omega, fun y => hb ⟨y.1, by omega⟩⟩ I R _ _ _ (fun _ _ => rfl) rfl rfl hRK hC
  refine af_N (cc := 1) (tt := 6) rfl rfl rfl ?_
  try dsimp only
  refine B_X9_cell_9 ?_
  try dsimp only
  refine ⟨so0, _, (by first | exact hRK2.x.1 | exact hRK.x.1), ?_⟩
  refine ⟨⟨Nat.zero_le _, Nat.zero_le _, Nat.le_of_ble_eq_true rfl⟩, sw0 w1, ?_⟩
  refine D_cellFigure hG w1 (hRK.w w1) hC.1 hZ.1.1 (by unfold isC; omega) (by omega) ?_
  refine af_I0 rfl rfl (by decide) ?_
  try dsimp only
  refine B_X9_cell_18 ?_
  try dsimp only
  exact hQ (by omega) I R _ _ _ (fun _ _ => rfl) rfl rfl hRK hC
theorem D_troop {G : amG} {I : Nat → Nat → Int} {R : Nat → Nat → Option Nat} {L : Nat → Nat → Int64} {x c t : Nat} {Q : amR → amH → Prop} (hG : amG0 G) (hRK : RK R) {z : Row} {n : Int} {zs : Nat → Row} (hC : CS I R z n zs) (hZ : ZF z) {k w : Int} (hT0 : ¬ (0 ≤ k ∧ k < z 98) → QW Q I L (Sum.inr 0) z n zs) (hT1 : (0 ≤ k ∧ k < z 98) ∧ ¬ (0 ≤ w ∧ w ≤ 8) → QW Q I L (Sum.inr 1) z n zs) (hQ : (0 ≤ k ∧ k < z 98) ∧ (0 ≤ w ∧ w ≤ 8) → QW Q I L (Sum.inl (some (aI (trN z k.toNat w)))) z n zs) : CT G sX9_troop [aR (some 0), aI k, aI w] (I, R, L, SH, x, c, t) Q := by
  refine CT_of ok_X9_troop hG (Nat.le_of_ble_eq_true rfl) ?_
  show X G mX9_troop Q 0 _ [] (I, R, L, SH, x, 2, 12)
  have hn1 := hZ.1.1.2.1.1
  have hn2 := hZ.1.1.2.1.2
  have hzo := hZ.1.2.1.1
  have h0C := hZ.1.2.2.1
  have hzm := hZ.2.1
  refine B_X9_troop_0 ?_
  try dsimp only
  refine ⟨⟨by omega, by omega, Nat.le_of_ble_eq_true rfl⟩, so0, ?_⟩
  refine D_needTroop hG hRK (wN hC.1) (fun hb c2 t2 => ?_) (fun hok1 c2 t2 => ?_)
  · refine af_X rfl (fun c3 t3 => ?_)
    exact hT0 hb I R _ _ _ (fun _ _ => rfl) rfl rfl hRK hC
  refine af_N (cc := 1) (tt := 6) rfl rfl rfl ?_
  try dsimp only
  refine B_X9_troop_5 ?_
  try dsimp only
  refine ⟨⟨by omega, by omega, Nat.le_of_ble_eq_true rfl⟩, trivial, ?_⟩
  refine D_needFigure hG (fun hb c2 t2 => ?_) (fun hok2 c2 t2 => ?_)
  · refine af_X rfl (fun c3 t3 => ?_)
    exact hT1 ⟨by omega, fun y => hb ⟨y.1, by omega⟩⟩ I R _ _ _ (fun _ _ => rfl) rfl rfl hRK hC
  refine af_N (cc := 1) (tt := 6) rfl rfl rfl ?_
  try dsimp only
  refine B_X9_troop_11 ?_
  try dsimp only
  refine ⟨so0, _, (by first | exact hRK2.x.1 | exact hRK.x.1), ?_⟩
  refine ⟨⟨Nat.zero_le _, Nat.zero_le _, Nat.le_of_ble_eq_true rfl⟩, sw0 w1, ?_⟩
  refine D_troopFigure hG w1 (hRK.w w1) hC.1 hZ.1.1 hC.2.1 hzo hok1 (by omega) ?_
  refine af_I0 rfl rfl (by decide) ?_
  try dsimp only
  refine B_X9_troop_20 ?_
  try dsimp only
  exact hQ (by omega) I R _ _ _ (fun _ _ => rfl) rfl rfl hRK hC
theorem D_underWay {G : amG} {I : Nat → Nat → Int} {R : Nat → Nat → Option Nat} {L : Nat → Nat → Int64} {x c t : Nat} {Q : amR → amH → Prop} (hG : amG0 G) (hRK : RK R) {z : Row} {n : Int} {zs : Nat → Row} (hC : CS I R z n zs) (hZ : ZF z) {p w : Int} (hT0 : ¬ (0 ≤ p ∧ p < z 195) → QW Q I L (Sum.inr 0) z n zs) (hT1 : (0 ≤ p ∧ p < z 195) ∧ ¬ (0 ≤ w ∧ w ≤ 3) → QW Q I L (Sum.inr 1) z n zs) (hQ : (0 ≤ p ∧ p < z 195) ∧ (0 ≤ w ∧ w ≤ 3) → QW Q I L (Sum.inl (some (aI (uwZ z p.toNat w)))) z n zs) : CT G sX9_underWay [aR (some 0), aI p, aI w] (I, R, L, SH, x, c, t) Q := by
  refine CT_of ok_X9_underWay hG (Nat.le_of_ble_eq_true rfl) ?_
  show X G mX9_underWay Q 0 _ [] (I, R, L, SH, x, 2, 12)
  have hn1 := hZ.1.1.2.1.1
  have hn2 := hZ.1.1.2.1.2
  have hzo := hZ.1.2.1.1
  have h0C := hZ.1.2.2.1
  have hzm := hZ.2.1
  refine B_X9_underWay_0 ?_
  try dsimp only
  try simp (disch := omega) only [wO hC.1]
  refine ⟨fun c1_0 => ?_, fun c1_0 => ?_⟩
  · refine B_X9_underWay_15 ?_
    try dsimp only
    try simp (disch := omega) only [wO hC.1]
    refine ⟨⟨by omega, by omega, Nat.le_of_ble_eq_true rfl⟩, ?_⟩
    exact hT0 (by omega) I R _ _ _ (fun _ _ => rfl) rfl rfl hRK hC
  · refine ⟨so0, _, (by first | exact hRK2.x.1 | exact hRK.x.1), ?_⟩
    refine ⟨sw0 w1, ?_⟩
    try simp (disch := omega) only [wO hC.1]
    refine ⟨fun c12_0 => ?_, fun c12_0 => ?_⟩
    · refine B_X9_underWay_25 ?_
      try dsimp only
      try simp (disch := omega) only [wO hC.1]
      refine ⟨⟨by omega, by omega, Nat.le_of_ble_eq_true rfl⟩, trivial, ?_⟩
      refine D_needFigure hG (fun hb c2 t2 => ?_) (fun hok1 c2 t2 => ?_)
      · refine af_X rfl (fun c3 t3 => ?_)
        exact hT1 ⟨by omega, fun y => hb ⟨y.1, by omega⟩⟩ I R _ _ _ (fun _ _ => rfl) rfl rfl hRK hC
      refine af_N (cc := 1) (tt := 6) rfl rfl rfl ?_
      try dsimp only
      try simp (disch := omega) only [wO hC.1]
      refine B_X9_underWay_30 ?_
      try dsimp only
      try simp (disch := omega) only [wO hC.1]
      refine ⟨so0, _, (by first | exact hRK2.x.1 | exact hRK.x.1), ?_⟩
      refine ⟨sw0 w1, _, (by first | exact (hRK2.w w1).orr | exact (hRK.w w1).orr), ?_⟩
      refine ⟨_, _, sw5 w1, ⟨by decide, by decide⟩, ⟨by omega, by omega⟩, _, (by first | exact (hRK2.w w1).o (by omega) | exact (hRK.w w1).o (by omega)), ?_⟩
      refine ⟨⟨Nat.zero_le _, Nat.zero_le _, Nat.le_of_ble_eq_true rfl⟩, swO w1 (by omega), ?_⟩
      have hfg : fig (odC I 1 p.toNat) w = uwZ z p.toNat w := by
        unfold uwZ
        rw [List.getD_eq_getElem?_getD, ← hC.2.1, oc_at (by omega)]
        rfl
      refine D_figureO hG w1 (k := p.toNat) (by omega) (w := w) (by omega) ?_
      rw [hfg]
      refine af_I0 rfl rfl (by decide) ?_
      try dsimp only
      try simp (disch := omega) only [wO hC.1]
      refine B_X9_underWay_43 ?_
      try dsimp only
      try simp (disch := omega) only [wO hC.1]
      exact hQ (by omega) I R _ _ _ (fun _ _ => rfl) rfl rfl hRK hC
    · refine B_X9_underWay_15 ?_
      try dsimp only
      try simp (disch := omega) only [wO hC.1]
      refine ⟨⟨by omega, by omega, Nat.le_of_ble_eq_true rfl⟩, ?_⟩
      exact hT0 (by omega) I R _ _ _ (fun _ _ => rfl) rfl rfl hRK hC
theorem D_countNow {G : amG} {I : Nat → Nat → Int} {R : Nat → Nat → Option Nat} {L : Nat → Nat → Int64} {x c t : Nat} {Q : amR → amH → Prop} (hG : amG0 G) (hRK : RK R) {z : Row} {n : Int} {zs : Nat → Row} (hC : CS I R z n zs) (hZ : ZF z) {w : Int} (hw : 0 ≤ w ∧ w ≤ 13) (hQ : Q (Sum.inl (some (aI (if w = 13 then n else cntZ z w)))) (I, R, L, SH, x, 0, 0)) : CT G sX9_countNow [aR (some 0), aI w] (I, R, L, SH, x, c, t) Q := by
  refine CT_of ok_X9_countNow hG (Nat.le_of_ble_eq_true rfl) ?_
  show X G mX9_countNow Q 0 _ [] (I, R, L, SH, x, 0, 0)
  have hn1 := hZ.1.1.2.1.1
  have hn2 := hZ.1.1.2.1.2
  have hzo := hZ.1.2.1.1
  have h0C := hZ.1.2.2.1
  have hzm := hZ.2.1
  refine B_X9_countNow_0 ?_
  try dsimp only
  try simp only [hC.2.2.1]
  refine ⟨fun c3_0 => ?_, fun c3_0 => ?_⟩
  · refine B_X9_countNow_16 ?_
    try dsimp only
    try simp only [hC.2.2.1]
    refine ⟨so0, _, (by first | exact hRK2.x.1 | exact hRK.x.1), ?_⟩
    refine ⟨⟨Nat.zero_le _, Nat.zero_le _, Nat.le_of_ble_eq_true rfl⟩, sw0 w1, ?_⟩
    refine D_figure hG w1 (hRK.w w1) hC.1 hZ.1.1 (by omega) ?_
    refine af_I0 rfl rfl (by decide) ?_
    try dsimp only
    try simp only [hC.2.2.1]
    refine B_X9_countNow_24 ?_
    try dsimp only
    try simp only [hC.2.2.1]
    first
      | (rw [if_pos (by omega)] at hQ; exact hQ)
      | (rw [if_neg (by assumption)] at hQ; exact hQ)
  · refine ⟨so0, _, (by first | exact hRK2.x.2.2.1 | exact hRK.x.2.2.1), ?_⟩
    refine ⟨sh99, ?_⟩
    try simp only [hC.2.2.1]
    refine B_X9_countNow_24 ?_
    try dsimp only
    try simp only [hC.2.2.1]
    first
      | (rw [if_pos (by omega)] at hQ; exact hQ)
      | (rw [if_neg (by assumption)] at hQ; exact hQ)
theorem D_count {G : amG} {I : Nat → Nat → Int} {R : Nat → Nat → Option Nat} {L : Nat → Nat → Int64} {x c t : Nat} {Q : amR → amH → Prop} (hG : amG0 G) (hRK : RK R) {z : Row} {n : Int} {zs : Nat → Row} (hC : CS I R z n zs) (hZ : ZF z) {w : Int} (hT0 : ¬ (0 ≤ w ∧ w ≤ 13) → QW Q I L (Sum.inr 1) z n zs) (hQ : (0 ≤ w ∧ w ≤ 13) → QW Q I L (Sum.inl (some (aI (if w = 13 then n else cntZ z w)))) z n zs) : CT G sX9_count [aR (some 0), aI w] (I, R, L, SH, x, c, t) Q := by
  refine CT_of ok_X9_count hG (Nat.le_of_ble_eq_true rfl) ?_
  show X G mX9_count Q 0 _ [] (I, R, L, SH, x, 1, 6)
  have hn1 := hZ.1.1.2.1.1
  have hn2 := hZ.1.1.2.1.2
  have hzo := hZ.1.2.1.1
  have h0C := hZ.1.2.2.1
  have hzm := hZ.2.1
  refine B_X9_count_0 ?_
  try dsimp only
  refine ⟨⟨by omega, by omega, Nat.le_of_ble_eq_true rfl⟩, trivial, ?_⟩
  refine D_needFigure hG (fun hb c2 t2 => ?_) (fun hok1 c2 t2 => ?_)
  · refine af_X rfl (fun c3 t3 => ?_)
    exact hT0 (fun y => hb ⟨y.1, by omega⟩) I R _ _ _ (fun _ _ => rfl) rfl rfl hRK hC
  refine af_N (cc := 1) (tt := 6) rfl rfl rfl ?_
  try dsimp only
  refine B_X9_count_6 ?_
  try dsimp only
  refine ⟨⟨Nat.zero_le _, Nat.zero_le _, Nat.le_of_ble_eq_true rfl⟩, so0, ?_⟩
  refine D_countNow hG hRK hC hZ (by omega) ?_
  refine af_I0 rfl rfl (by decide) ?_
  try dsimp only
  refine B_X9_count_11 ?_
  try dsimp only
  exact hQ (by omega) I R _ _ _ (fun _ _ => rfl) rfl rfl hRK hC
theorem D_sees {G : amG} {I : Nat → Nat → Int} {R : Nat → Nat → Option Nat} {L : Nat → Nat → Int64} {x c t : Nat} {Q : amR → amH → Prop} (hG : amG0 G) (hRK : RK R) {z : Row} {n : Int} {zs : Nat → Row} (hC : CS I R z n zs) (hZ : ZF z) {v w : Int} (hT0 : ¬ ((0 ≤ v ∧ v ≤ 95) ∧ 0 ≤ w ∧ w ≤ 95) → QW Q I L (Sum.inr 0) z n zs) (hQ : ((0 ≤ v ∧ v ≤ 95) ∧ 0 ≤ w ∧ w ≤ 95) → QW Q I L (Sum.inl (some (aI (seeI z v w)))) z n zs) : CT G sX9_sees [aR (some 0), aI v, aI w] (I, R, L, SH, x, c, t) Q := by
  refine CT_of ok_X9_sees hG (Nat.le_of_ble_eq_true rfl) ?_
  show X G mX9_sees Q 0 _ [] (I, R, L, SH, x, 2, 12)
  have hn1 := hZ.1.1.2.1.1
  have hn2 := hZ.1.1.2.1.2
  have hzo := hZ.1.2.1.1
  have h0C := hZ.1.2.2.1
  have hzm := hZ.2.1
  refine B_X9_sees_0 ?_
  try dsimp only
  refine ⟨⟨by omega, by omega, Nat.le_of_ble_eq_true rfl⟩, trivial, ?_⟩
  refine D_needCell hG (fun hb c2 t2 => ?_) (fun hok1 c2 t2 => ?_)
  · refine af_X rfl (fun c3 t3 => ?_)
    exact hT0 (fun y => hb y.1) I R _ _ _ (fun _ _ => rfl) rfl rfl hRK hC
  refine af_N (cc := 1) (tt := 6) rfl rfl rfl ?_
  try dsimp only
  refine B_X9_sees_4 ?_
  try dsimp only
  refine ⟨⟨by omega, by omega, Nat.le_of_ble_eq_true rfl⟩, trivial, ?_⟩
  refine D_needCell hG (fun hb c2 t2 => ?_) (fun hok2 c2 t2 => ?_)
  · refine af_X rfl (fun c3 t3 => ?_)
    exact hT0 (fun y => hb y.2) I R _ _ _ (fun _ _ => rfl) rfl rfl hRK hC
  refine af_N (cc := 1) (tt := 6) rfl rfl rfl ?_
  try dsimp only
  refine B_X9_sees_8 ?_
  try dsimp only
  refine ⟨so0, _, (by first | exact hRK2.x.1 | exact hRK.x.1), ?_⟩
  refine ⟨sw0 w1, _, (by first | exact (hRK2.w w1).te | exact (hRK.w w1).te), ?_⟩
  refine ⟨⟨Nat.zero_le _, Nat.zero_le _, Nat.le_of_ble_eq_true rfl⟩, sw1 w1, ?_⟩
  refine D_inSight hG w1 (hRK.w w1) (wH hC.1) hZ.1.1.1 (v := v) (w := w) (by unfold isC; omega) (by unfold isC; omega) (fun r hr => ?_)
  have hs4 : (seeI z v w = 1 ∧ r = 1) ∨ (seeI z v w = 0 ∧ r = 0) := hr.imp (fun q => ⟨seeI_one q.1, q.2⟩) (fun q => ⟨seeI_zero q.1, q.2⟩)
  have hrs : r = seeI z v w := by omega
  refine af_I0 rfl rfl (by decide) ?_
  try dsimp only
  refine B_X9_sees_20 ?_
  try dsimp only
  refine ⟨by first | exact Or.inl rfl | exact Or.inr rfl | exact Or.inl trivial | exact Or.inr trivial | omega, ?_⟩
  have hQ := hQ ⟨hok1, hok2⟩
  rw [← hrs] at hQ
  exact hQ I R _ _ _ (fun _ _ => rfl) rfl rfl hRK hC
theorem D_distance {G : amG} {I : Nat → Nat → Int} {R : Nat → Nat → Option Nat} {L : Nat → Nat → Int64} {x c t : Nat} {Q : amR → amH → Prop} (hG : amG0 G) (hRK : RK R) {z : Row} {n : Int} {zs : Nat → Row} (hC : CS I R z n zs) (hZ : ZF z) {v w : Int} (hT0 : ¬ ((0 ≤ v ∧ v ≤ 95) ∧ 0 ≤ w ∧ w ≤ 95) → QW Q I L (Sum.inr 0) z n zs) (hQ : ((0 ≤ v ∧ v ≤ 95) ∧ 0 ≤ w ∧ w ≤ 95) → QW Q I L (Sum.inl (some (aI (dS z v w)))) z n zs) : CT G sX9_distance [aR (some 0), aI v, aI w] (I, R, L, SH, x, c, t) Q := by
  refine CT_of ok_X9_distance hG (Nat.le_of_ble_eq_true rfl) ?_
  show X G mX9_distance Q 0 _ [] (I, R, L, SH, x, 2, 12)
  have hn1 := hZ.1.1.2.1.1
  have hn2 := hZ.1.1.2.1.2
  have hzo := hZ.1.2.1.1
  have h0C := hZ.1.2.2.1
  have hzm := hZ.2.1
  refine B_X9_distance_0 ?_
  try dsimp only
  refine ⟨⟨by omega, by omega, Nat.le_of_ble_eq_true rfl⟩, trivial, ?_⟩
  refine D_needCell hG (fun hb c2 t2 => ?_) (fun hok1 c2 t2 => ?_)
  · refine af_X rfl (fun c3 t3 => ?_)
    exact hT0 (fun y => hb y.1) I R _ _ _ (fun _ _ => rfl) rfl rfl hRK hC
  refine af_N (cc := 1) (tt := 6) rfl rfl rfl ?_
  try dsimp only
  refine B_X9_distance_4 ?_
  try dsimp only
  refine ⟨⟨by omega, by omega, Nat.le_of_ble_eq_true rfl⟩, trivial, ?_⟩
  refine D_needCell hG (fun hb c2 t2 => ?_) (fun hok2 c2 t2 => ?_)
  · refine af_X rfl (fun c3 t3 => ?_)
    exact hT0 (fun y => hb y.2) I R _ _ _ (fun _ _ => rfl) rfl rfl hRK hC
  refine af_N (cc := 1) (tt := 6) rfl rfl rfl ?_
  try dsimp only
  refine B_X9_distance_8 ?_
  try dsimp only
  refine ⟨so0, _, (by first | exact hRK2.x.2.2.2.2.1 | exact hRK.x.2.2.2.2.1), ?_⟩
  refine ⟨so0, _, (by first | exact hRK2.x.1 | exact hRK.x.1), ?_⟩
  refine ⟨sw0 w1, _, (by first | exact (hRK2.w w1).te | exact (hRK.w w1).te), ?_⟩
  refine ⟨⟨Nat.zero_le _, Nat.zero_le _, Nat.le_of_ble_eq_true rfl⟩, sc0, ?_⟩
  rw [← p3_self I 351]
  refine D_stepsBetween hG w1 (hRK.w w1) hRK.c hRK.p1 hC.2.2.2.2.2 (wH hC.1) hZ.1.1.1 (by unfold isC; omega) (by unfold isC; omega) (fun f2 q2 => ?_)
  refine af_I0 rfl rfl (by decide) ?_
  try dsimp only
  refine B_X9_distance_24 ?_
  try dsimp only
  exact hQ ⟨hok1, hok2⟩ _ R _ _ _ (fun a ha => p3_o _ _ _ _ (by omega)) (p3_o _ _ _ _ (by decide)) (p3_o _ _ _ _ (by decide)) hRK (CS_off hC hZ (fun a ha => p3_o _ _ _ _ (by omega)))
theorem D_why {G : amG} {I : Nat → Nat → Int} {R : Nat → Nat → Option Nat} {L : Nat → Nat → Int64} {x c t : Nat} {Q : amR → amH → Prop} (hG : amG0 G) (hRK : RK R) {z : Row} {n : Int} {zs : Nat → Row} (hC : CS I R z n zs) (hZ : ZF z) {k : Int} (hT0 : ¬ (0 ≤ k ∧ k < z 98) → QW Q I L (Sum.inr 0) z n zs) (hQ : (0 ≤ k ∧ k < z 98) → QW Q I L (Sum.inl (some (aI (whyN z k.toNat)))) z n zs) : CT G sX9_why [aR (some 0), aI k] (I, R, L, SH, x, c, t) Q := by
  refine CT_of ok_X9_why hG (Nat.le_of_ble_eq_true rfl) ?_
  show X G mX9_why Q 0 _ [] (I, R, L, SH, x, 1, 6)
  have hn1 := hZ.1.1.2.1.1
  have hn2 := hZ.1.1.2.1.2
  have hzo := hZ.1.2.1.1
  have h0C := hZ.1.2.2.1
  have hzm := hZ.2.1
  refine B_X9_why_0 ?_
  try dsimp only
  refine ⟨⟨by omega, by omega, Nat.le_of_ble_eq_true rfl⟩, so0, ?_⟩
  refine D_needTroop hG hRK (wN hC.1) (fun hb c2 t2 => ?_) (fun hok1 c2 t2 => ?_)
  · refine af_X rfl (fun c3 t3 => ?_)
    exact hT0 hb I R _ _ _ (fun _ _ => rfl) rfl rfl hRK hC
  refine af_N (cc := 1) (tt := 6) rfl rfl rfl ?_
  try dsimp only
  refine B_X9_why_5 ?_
  try dsimp only
  refine ⟨so0, _, (by first | exact hRK2.x.2.2.2.2.1 | exact hRK.x.2.2.2.2.1), ?_⟩
  refine ⟨so0, _, (by first | exact hRK2.x.1 | exact hRK.x.1), ?_⟩
  refine ⟨⟨Nat.zero_le _, Nat.zero_le _, Nat.le_of_ble_eq_true rfl⟩, sc0, ?_⟩
  rw [← p3_self I 351]
  refine D_refusal hG w1 (hRK.w w1) hRK.c hRK.p1 hC.2.2.2.2.2 hC.1 hZ.1.1 hok1 hzo (fun f2 q2 => ?_)
  refine af_I0 rfl rfl (by decide) ?_
  try dsimp only
  refine B_X9_why_17 ?_
  try dsimp only
  exact hQ hok1 _ R _ _ _ (fun a ha => p3_o _ _ _ _ (by omega)) (p3_o _ _ _ _ (by decide)) (p3_o _ _ _ _ (by decide)) hRK (CS_off hC hZ (fun a ha => p3_o _ _ _ _ (by omega)))
theorem D_bestPost {G : amG} {I : Nat → Nat → Int} {R : Nat → Nat → Option Nat} {L : Nat → Nat → Int64} {x c t : Nat} {Q : amR → amH → Prop} (hG : amG0 G) (hRK : RK R) {z : Row} {n : Int} {zs : Nat → Row} (hC : CS I R z n zs) (hZ : ZF z) {v : Int} (hT0 : ¬ (0 ≤ v ∧ v ≤ 1) → QW Q I L (Sum.inr 0) z n zs) (hQ : (0 ≤ v ∧ v ≤ 1) → QW Q I L (Sum.inl (some (aI ((bpS z v 95).1)))) z n zs) : CT G sX9_bestPost [aR (some 0), aI v] (I, R, L, SH, x, c, t) Q := by
  refine CT_of ok_X9_bestPost hG (Nat.le_of_ble_eq_true rfl) ?_
  show X G mX9_bestPost Q 0 _ [] (I, R, L, SH, x, 1, 6)
  have hn1 := hZ.1.1.2.1.1
  have hn2 := hZ.1.1.2.1.2
  have hzo := hZ.1.2.1.1
  have h0C := hZ.1.2.2.1
  have hzm := hZ.2.1
  refine B_X9_bestPost_0 ?_
  try dsimp only
  refine ⟨⟨by omega, by omega, Nat.le_of_ble_eq_true rfl⟩, trivial, ?_⟩
  refine D_needSide hG (fun hb c2 t2 => ?_) (fun hok1 c2 t2 => ?_)
  · refine af_X rfl (fun c3 t3 => ?_)
    exact hT0 hb I R _ _ _ (fun _ _ => rfl) rfl rfl hRK hC
  refine af_N (cc := 1) (tt := 6) rfl rfl rfl ?_
  try dsimp only
  refine B_X9_bestPost_4 ?_
  try dsimp only
  refine ⟨so0, _, (by first | exact hRK2.x.2.2.2.2.1 | exact hRK.x.2.2.2.2.1), ?_⟩
  refine ⟨so0, _, (by first | exact hRK2.x.1 | exact hRK.x.1), ?_⟩
  refine ⟨⟨Nat.zero_le _, Nat.zero_le _, Nat.le_of_ble_eq_true rfl⟩, sc0, ?_⟩
  rw [← p3_self I 351]
  refine D_bestCell hG w1 (hRK.w w1) hRK.c hRK.p1 hC.2.2.2.2.2 hC.1 hZ.1.1 (fun f2 q2 s2 => ?_)
  refine af_I0 rfl rfl (by decide) ?_
  try dsimp only
  refine B_X9_bestPost_16 ?_
  try dsimp only
  exact hQ hok1 _ R _ _ _ (fun a ha => by rw [p3_o _ _ _ _ (by omega), pr_off _ _ (by omega)]) (by rw [p3_o _ _ _ _ (by decide), pr_off _ _ (by decide)]) (by rw [p3_o _ _ _ _ (by decide), pr_off _ _ (by decide)]) hRK (CS_off hC hZ (fun a ha => by rw [p3_o _ _ _ _ (by omega), pr_off _ _ (by omega)]))
theorem D_strengthLeft {G : amG} {I : Nat → Nat → Int} {R : Nat → Nat → Option Nat} {L : Nat → Nat → Int64} {x c t : Nat} {Q : amR → amH → Prop} (hG : amG0 G) (hRK : RK R) {z : Row} {n : Int} {zs : Nat → Row} (hC : CS I R z n zs) (hZ : ZF z) (hQ : QW Q I L (Sum.inl (some (aD (shZr z)))) z n zs) : CT G sX9_strengthLeft [aR (some 0)] (I, R, L, SH, x, c, t) Q := by
  refine CT_of ok_X9_strengthLeft hG (Nat.le_of_ble_eq_true rfl) ?_
  show X G mX9_strengthLeft Q 0 _ [] (I, R, L, SH, x, 0, 0)
  have hn1 := hZ.1.1.2.1.1
  have hn2 := hZ.1.1.2.1.2
  have hzo := hZ.1.2.1.1
  have h0C := hZ.1.2.2.1
  have hzm := hZ.2.1
  refine B_X9_strengthLeft_0 ?_
  try dsimp only
  refine ⟨so0, _, (by first | exact hRK2.x.1 | exact hRK.x.1), ?_⟩
  refine ⟨⟨Nat.zero_le _, Nat.zero_le _, Nat.le_of_ble_eq_true rfl⟩, sw0 w1, ?_⟩
  refine D_shareLeft hG w1 (hRK.w w1) hC.1 hZ.1.1 ?_
  refine af_I0 rfl rfl (by decide) ?_
  try dsimp only
  refine B_X9_strengthLeft_7 ?_
  try dsimp only
  refine ⟨rfl, ?_⟩
  exact hQ I R _ _ _ (fun _ _ => rfl) rfl rfl hRK hC
theorem D_ifPassed {G : amG} {I : Nat → Nat → Int} {R : Nat → Nat → Option Nat} {L : Nat → Nat → Int64} {x c t : Nat} {Q : amR → amH → Prop} (hG : amG0 G) (hRK : RK R) {z : Row} {n : Int} {zs : Nat → Row} (hC : CS I R z n zs) (hZ : ZF z) {u w : Int} (hT0 : ¬ ((1 ≤ u ∧ u ≤ 50) ∧ (w = 2 ∨ w = 3 ∨ (6 ≤ w ∧ w ≤ 10))) → QW Q I L (Sum.inr 1) z n zs) (hQ : ((1 ≤ u ∧ u ≤ 50) ∧ (w = 2 ∨ w = 3 ∨ (6 ≤ w ∧ w ≤ 10))) → QW Q I L (Sum.inl (some (aI (cntZ (passN z u.toNat) w)))) z n zs) : CT G sX9_ifPassed [aR (some 0), aI u, aI w] (I, R, L, SH, x, c, t) Q := by
  refine CT_of ok_X9_ifPassed hG (Nat.le_of_ble_eq_true rfl) ?_
  show X G mX9_ifPassed Q 0 _ [] (I, R, L, SH, x, 2, 12)
  have hn1 := hZ.1.1.2.1.1
  have hn2 := hZ.1.1.2.1.2
  have hzo := hZ.1.2.1.1
  have h0C := hZ.1.2.2.1
  have hzm := hZ.2.1
  refine B_X9_ifPassed_0 ?_
  try dsimp only
  refine ⟨⟨by omega, by omega, Nat.le_of_ble_eq_true rfl⟩, trivial, ?_⟩
  refine D_needTurns hG (fun hb c2 t2 => ?_) (fun hok1 c2 t2 => ?_)
  · refine af_X rfl (fun c3 t3 => ?_)
    exact hT0 (fun y => hb y.1) I R _ _ _ (fun _ _ => rfl) rfl rfl hRK hC
  refine af_N (cc := 1) (tt := 6) rfl rfl rfl ?_
  try dsimp only
  refine B_X9_ifPassed_4 ?_
  try dsimp only
  refine ⟨fun c6_1 => ?_, fun c6_1 => ?_⟩
  · refine B_X9_ifPassed_36 ?_
    try dsimp only
    refine ⟨so0, _, (by first | exact hRK2.x.2.1 | exact hRK.x.2.1), ?_⟩
    refine ⟨so0, _, (by first | exact hRK2.x.1 | exact hRK.x.1), ?_⟩
    refine ⟨⟨Nat.zero_le _, Nat.zero_le _, Nat.le_of_ble_eq_true rfl⟩, (by first | exact sw0 w1 | exact sw0 w50), ?_⟩
    refine D_copyWar hG w50 (hRK.w w50) w1 (hRK.w w1) (by decide) hC.1 hZ.1.1.2.1 hzo (fun J j1 j2 j3 => ?_)
    have hO50 : WO J 50 z := by
      unfold WO
      rw [← hC.2.1]
      unfold oc
      exact List.map_congr_left (fun i hi => j3 i (by have := List.mem_range.mp hi; omega))
    refine af_N0 rfl rfl rfl ?_
    try dsimp only
    refine B_X9_ifPassed_47 ?_
    try dsimp only
    refine ⟨so0, _, (by first | exact hRK2.x.2.2.2.2.2 | exact hRK.x.2.2.2.2.2), ?_⟩
    refine ⟨so0, _, (by first | exact hRK2.x.2.1 | exact hRK.x.2.1), ?_⟩
    refine ⟨⟨Nat.zero_le _, Nat.zero_le _, Nat.le_of_ble_eq_true rfl⟩, sa0, ?_⟩
    refine D_play hG w50 (hRK.w w50) j2 hO50 hZ.1 (by omega) hRK.a hRK.p2 (fun K k1 k2 k3 => ?_)
    refine af_N0 rfl rfl rfl ?_
    try dsimp only
    refine B_X9_ifPassed_59 ?_
    try dsimp only
    refine ⟨so0, _, (by first | exact hRK2.x.2.1 | exact hRK.x.2.1), ?_⟩
    refine ⟨⟨Nat.zero_le _, Nat.zero_le _, Nat.le_of_ble_eq_true rfl⟩, (by first | exact sw0 w1 | exact sw0 w50), ?_⟩
    refine D_figure hG w50 (hRK.w w50) k2 (passN_inv hZ.1 u.toNat (by omega)).1.1 (by omega) ?_
    refine af_I0 rfl rfl (by decide) ?_
    try dsimp only
    refine B_X9_ifPassed_67 ?_
    try dsimp only
    exact hQ (by omega) K R _ _ _ (fun a ha => by rw [k1 a (by omega) (by omega) (by omega) (by omega), j1 a (by omega)]) (by rw [k1 346 (by omega) (by decide) (by decide) (by decide), j1 346 (by omega)]) (by rw [k1 347 (by omega) (by decide) (by decide) (by decide), j1 347 (by omega)]) hRK (CS_off hC hZ (fun a ha => by rw [k1 a (by omega) (by omega) (by omega) (by omega), j1 a (by omega)]))
  · refine ⟨fun c11_1 => ?_, fun c11_1 => ?_⟩
    · refine B_X9_ifPassed_36 ?_
      try dsimp only
      refine ⟨so0, _, (by first | exact hRK2.x.2.1 | exact hRK.x.2.1), ?_⟩
      refine ⟨so0, _, (by first | exact hRK2.x.1 | exact hRK.x.1), ?_⟩
      refine ⟨⟨Nat.zero_le _, Nat.zero_le _, Nat.le_of_ble_eq_true rfl⟩, (by first | exact sw0 w1 | exact sw0 w50), ?_⟩
      refine D_copyWar hG w50 (hRK.w w50) w1 (hRK.w w1) (by decide) hC.1 hZ.1.1.2.1 hzo (fun J j1 j2 j3 => ?_)
      have hO50 : WO J 50 z := by
        unfold WO
        rw [← hC.2.1]
        unfold oc
        exact List.map_congr_left (fun i hi => j3 i (by have := List.mem_range.mp hi; omega))
      refine af_N0 rfl rfl rfl ?_
      try dsimp only
      refine B_X9_ifPassed_47 ?_
      try dsimp only
      refine ⟨so0, _, (by first | exact hRK2.x.2.2.2.2.2 | exact hRK.x.2.2.2.2.2), ?_⟩
      refine ⟨so0, _, (by first | exact hRK2.x.2.1 | exact hRK.x.2.1), ?_⟩
      refine ⟨⟨Nat.zero_le _, Nat.zero_le _, Nat.le_of_ble_eq_true rfl⟩, sa0, ?_⟩
      refine D_play hG w50 (hRK.w w50) j2 hO50 hZ.1 (by omega) hRK.a hRK.p2 (fun K k1 k2 k3 => ?_)
      refine af_N0 rfl rfl rfl ?_
      try dsimp only
      refine B_X9_ifPassed_59 ?_
      try dsimp only
      refine ⟨so0, _, (by first | exact hRK2.x.2.1 | exact hRK.x.2.1), ?_⟩
      refine ⟨⟨Nat.zero_le _, Nat.zero_le _, Nat.le_of_ble_eq_true rfl⟩, (by first | exact sw0 w1 | exact sw0 w50), ?_⟩
      refine D_figure hG w50 (hRK.w w50) k2 (passN_inv hZ.1 u.toNat (by omega)).1.1 (by omega) ?_
      refine af_I0 rfl rfl (by decide) ?_
      try dsimp only
      refine B_X9_ifPassed_67 ?_
      try dsimp only
      exact hQ (by omega) K R _ _ _ (fun a ha => by rw [k1 a (by omega) (by omega) (by omega) (by omega), j1 a (by omega)]) (by rw [k1 346 (by omega) (by decide) (by decide) (by decide), j1 346 (by omega)]) (by rw [k1 347 (by omega) (by decide) (by decide) (by decide), j1 347 (by omega)]) hRK (CS_off hC hZ (fun a ha => by rw [k1 a (by omega) (by omega) (by omega) (by omega), j1 a (by omega)]))
    · refine ⟨fun c17_1 => ?_, fun c17_1 => ?_⟩
      · refine B_X9_ifPassed_26 ?_
        try dsimp only
        refine ⟨⟨by omega, by omega, Nat.le_of_ble_eq_true rfl⟩, ?_⟩
        exact hT0 (by omega) I R _ _ _ (fun _ _ => rfl) rfl rfl hRK hC
      · refine ⟨fun c23_1 => ?_, fun c23_1 => ?_⟩
        · refine B_X9_ifPassed_36 ?_
          try dsimp only
          refine ⟨so0, _, (by first | exact hRK2.x.2.1 | exact hRK.x.2.1), ?_⟩
          refine ⟨so0, _, (by first | exact hRK2.x.1 | exact hRK.x.1), ?_⟩
          refine ⟨⟨Nat.zero_le _, Nat.zero_le _, Nat.le_of_ble_eq_true rfl⟩, (by first | exact sw0 w1 | exact sw0 w50), ?_⟩
          refine D_copyWar hG w50 (hRK.w w50) w1 (hRK.w w1) (by decide) hC.1 hZ.1.1.2.1 hzo (fun J j1 j2 j3 => ?_)
          have hO50 : WO J 50 z := by
            unfold WO
            rw [← hC.2.1]
            unfold oc
            exact List.map_congr_left (fun i hi => j3 i (by have := List.mem_range.mp hi; omega))
          refine af_N0 rfl rfl rfl ?_
          try dsimp only
          refine B_X9_ifPassed_47 ?_
          try dsimp only
          refine ⟨so0, _, (by first | exact hRK2.x.2.2.2.2.2 | exact hRK.x.2.2.2.2.2), ?_⟩
          refine ⟨so0, _, (by first | exact hRK2.x.2.1 | exact hRK.x.2.1), ?_⟩
          refine ⟨⟨Nat.zero_le _, Nat.zero_le _, Nat.le_of_ble_eq_true rfl⟩, sa0, ?_⟩
          refine D_play hG w50 (hRK.w w50) j2 hO50 hZ.1 (by omega) hRK.a hRK.p2 (fun K k1 k2 k3 => ?_)
          refine af_N0 rfl rfl rfl ?_
          try dsimp only
          refine B_X9_ifPassed_59 ?_
          try dsimp only
          refine ⟨so0, _, (by first | exact hRK2.x.2.1 | exact hRK.x.2.1), ?_⟩
          refine ⟨⟨Nat.zero_le _, Nat.zero_le _, Nat.le_of_ble_eq_true rfl⟩, (by first | exact sw0 w1 | exact sw0 w50), ?_⟩
          refine D_figure hG w50 (hRK.w w50) k2 (passN_inv hZ.1 u.toNat (by omega)).1.1 (by omega) ?_
          refine af_I0 rfl rfl (by decide) ?_
          try dsimp only
          refine B_X9_ifPassed_67 ?_
          try dsimp only
          exact hQ (by omega) K R _ _ _ (fun a ha => by rw [k1 a (by omega) (by omega) (by omega) (by omega), j1 a (by omega)]) (by rw [k1 346 (by omega) (by decide) (by decide) (by decide), j1 346 (by omega)]) (by rw [k1 347 (by omega) (by decide) (by decide) (by decide), j1 347 (by omega)]) hRK (CS_off hC hZ (fun a ha => by rw [k1 a (by omega) (by omega) (by omega) (by omega), j1 a (by omega)]))
        · refine B_X9_ifPassed_26 ?_
          try dsimp only
          refine ⟨⟨by omega, by omega, Nat.le_of_ble_eq_true rfl⟩, ?_⟩
          exact hT0 (by omega) I R _ _ _ (fun _ _ => rfl) rfl rfl hRK hC
