variable {sT : List (Nat × Nat)}
/-! ===== the class: what is asked ===== -/
theorem D_cell {G : amG} {I : Nat → Nat → Int} {R : Nat → Nat → Option Nat} {L : Nat → Nat → Int64} {x c t : Nat} {Q : amR → amH → Prop} (hG : amG0 G) (hRK : RK R) {z : Row} {n : Int} {zs : Nat → Row} (hC : CS I R z n zs) (hZ : ZF z) {v w : Int} (hT0 : ¬ (0 ≤ v ∧ v ≤ 95) → QW sT Q I L x (Sum.inr 0) z n zs) (hT1 : (0 ≤ v ∧ v ≤ 95) ∧ ¬ (0 ≤ w ∧ w ≤ 3) → QW sT Q I L x (Sum.inr 1) z n zs) (hQ : (0 ≤ v ∧ v ≤ 95) ∧ (0 ≤ w ∧ w ≤ 3) → QW sT Q I L x (Sum.inl (some (aI (ceN z v w)))) z n zs) : CT G sX9_cell [aR (some 0), aI v, aI w] (I, R, L, (SH sT), x, c, t) Q := by
  refine CT_of ok_X9_cell hG (Nat.le_of_ble_eq_true rfl) ?_
  show X G mX9_cell Q 0 _ [] (I, R, L, (SH sT), x, 2, 12)
  have hn1 := hZ.1.1.2.1.1
  have hn2 := hZ.1.1.2.1.2
  have hzo := hZ.1.2.1.1
  have h0C := hZ.1.2.2.1
  have hzm := hZ.2.1
  refine B_X9_cell_0 ?_
  try dsimp only
  refine ⟨⟨by omega, by omega, Nat.le_of_ble_eq_true rfl⟩, trivial, ?_⟩
  refine D_needCell hG (fun hb c2 t2 => ?_) (fun hok1 c2 t2 => ?_)
  · refine af_X rfl (fun c3 t3 => ?_)
    exact hT0 hb I R _ _ (fun _ _ => rfl) rfl rfl hRK hC
  refine af_N (cc := 1) (tt := 6) rfl rfl rfl ?_
  try dsimp only
  refine B_X9_cell_4 ?_
  try dsimp only
  refine ⟨⟨by omega, by omega, Nat.le_of_ble_eq_true rfl⟩, trivial, ?_⟩
  refine D_needFigure hG (fun hb c2 t2 => ?_) (fun hok2 c2 t2 => ?_)
  · refine af_X rfl (fun c3 t3 => ?_)
    exact hT1 ⟨by omega, fun y => hb ⟨y.1, by omega⟩⟩ I R _ _ (fun _ _ => rfl) rfl rfl hRK hC
  refine af_N (cc := 1) (tt := 6) rfl rfl rfl ?_
  try dsimp only
  refine B_X9_cell_9 ?_
  try dsimp only
  refine ⟨so0, _, (by first | exact hRK2.x.1 | exact hRK.x.1), ?_⟩
  refine ⟨⟨Nat.zero_le _, Nat.zero_le _, Nat.le_of_ble_eq_true rfl⟩, sw0 w1, ?_⟩
  refine D_cellFigure hG w1 (hRK.w w1) hC.1 hZ.1.1 (by unfold isC; omega) (by omega) ?_
  refine af_I0 rfl rfl (by decide) ?_
  try dsimp only
  refine B_X9_cell_18 ?_
  try dsimp only
  exact hQ (by omega) I R _ _ (fun _ _ => rfl) rfl rfl hRK hC
theorem D_troop {G : amG} {I : Nat → Nat → Int} {R : Nat → Nat → Option Nat} {L : Nat → Nat → Int64} {x c t : Nat} {Q : amR → amH → Prop} (hG : amG0 G) (hRK : RK R) {z : Row} {n : Int} {zs : Nat → Row} (hC : CS I R z n zs) (hZ : ZF z) {k w : Int} (hT0 : ¬ (0 ≤ k ∧ k < z 98) → QW sT Q I L x (Sum.inr 0) z n zs) (hT1 : (0 ≤ k ∧ k < z 98) ∧ ¬ (0 ≤ w ∧ w ≤ 8) → QW sT Q I L x (Sum.inr 1) z n zs) (hQ : (0 ≤ k ∧ k < z 98) ∧ (0 ≤ w ∧ w ≤ 8) → QW sT Q I L x (Sum.inl (some (aI (trN z k.toNat w)))) z n zs) : CT G sX9_troop [aR (some 0), aI k, aI w] (I, R, L, (SH sT), x, c, t) Q := by
  refine CT_of ok_X9_troop hG (Nat.le_of_ble_eq_true rfl) ?_
  show X G mX9_troop Q 0 _ [] (I, R, L, (SH sT), x, 2, 12)
  have hn1 := hZ.1.1.2.1.1
  have hn2 := hZ.1.1.2.1.2
  have hzo := hZ.1.2.1.1
  have h0C := hZ.1.2.2.1
  have hzm := hZ.2.1
  refine B_X9_troop_0 ?_
  try dsimp only
  refine ⟨⟨by omega, by omega, Nat.le_of_ble_eq_true rfl⟩, so0, ?_⟩
  refine D_needTroop hG hRK (wN hC.1) (fun hb c2 t2 => ?_) (fun hok1 c2 t2 => ?_)
  · refine af_X rfl (fun c3 t3 => ?_)
    exact hT0 hb I R _ _ (fun _ _ => rfl) rfl rfl hRK hC
  refine af_N (cc := 1) (tt := 6) rfl rfl rfl ?_
  try dsimp only
  refine B_X9_troop_5 ?_
  try dsimp only
  refine ⟨⟨by omega, by omega, Nat.le_of_ble_eq_true rfl⟩, trivial, ?_⟩
  refine D_needFigure hG (fun hb c2 t2 => ?_) (fun hok2 c2 t2 => ?_)
  · refine af_X rfl (fun c3 t3 => ?_)
    exact hT1 ⟨by omega, fun y => hb ⟨y.1, by omega⟩⟩ I R _ _ (fun _ _ => rfl) rfl rfl hRK hC
  refine af_N (cc := 1) (tt := 6) rfl rfl rfl ?_
  try dsimp only
  refine B_X9_troop_11 ?_
  try dsimp only
  refine ⟨so0, _, (by first | exact hRK2.x.1 | exact hRK.x.1), ?_⟩
  refine ⟨⟨Nat.zero_le _, Nat.zero_le _, Nat.le_of_ble_eq_true rfl⟩, sw0 w1, ?_⟩
  refine D_troopFigure hG w1 (hRK.w w1) hC.1 hZ.1.1 hC.2.1 hzo hok1 (by omega) ?_
  refine af_I0 rfl rfl (by decide) ?_
  try dsimp only
  refine B_X9_troop_20 ?_
  try dsimp only
  exact hQ (by omega) I R _ _ (fun _ _ => rfl) rfl rfl hRK hC
theorem D_underWay {G : amG} {I : Nat → Nat → Int} {R : Nat → Nat → Option Nat} {L : Nat → Nat → Int64} {x c t : Nat} {Q : amR → amH → Prop} (hG : amG0 G) (hRK : RK R) {z : Row} {n : Int} {zs : Nat → Row} (hC : CS I R z n zs) (hZ : ZF z) {p w : Int} (hT0 : ¬ (0 ≤ p ∧ p < z 195) → QW sT Q I L x (Sum.inr 0) z n zs) (hT1 : (0 ≤ p ∧ p < z 195) ∧ ¬ (0 ≤ w ∧ w ≤ 3) → QW sT Q I L x (Sum.inr 1) z n zs) (hQ : (0 ≤ p ∧ p < z 195) ∧ (0 ≤ w ∧ w ≤ 3) → QW sT Q I L x (Sum.inl (some (aI (uwZ z p.toNat w)))) z n zs) : CT G sX9_underWay [aR (some 0), aI p, aI w] (I, R, L, (SH sT), x, c, t) Q := by
  refine CT_of ok_X9_underWay hG (Nat.le_of_ble_eq_true rfl) ?_
  show X G mX9_underWay Q 0 _ [] (I, R, L, (SH sT), x, 2, 12)
  have hn1 := hZ.1.1.2.1.1
  have hn2 := hZ.1.1.2.1.2
  have hzo := hZ.1.2.1.1
  have h0C := hZ.1.2.2.1
  have hzm := hZ.2.1
  refine B_X9_underWay_0 ?_
  try dsimp only
  try simp (disch := omega) only [wO hC.1]
  refine ⟨fun c1_0 => ?_, fun c1_0 => ?_⟩
  · refine B_X9_underWay_15 ?_
    try dsimp only
    try simp (disch := omega) only [wO hC.1]
    refine ⟨⟨by omega, by omega, Nat.le_of_ble_eq_true rfl⟩, ?_⟩
    exact hT0 (by omega) I R _ _ (fun _ _ => rfl) rfl rfl hRK hC
  · refine ⟨so0, _, (by first | exact hRK2.x.1 | exact hRK.x.1), ?_⟩
    refine ⟨sw0 w1, ?_⟩
    try simp (disch := omega) only [wO hC.1]
    refine ⟨fun c12_0 => ?_, fun c12_0 => ?_⟩
    · refine B_X9_underWay_25 ?_
      try dsimp only
      try simp (disch := omega) only [wO hC.1]
      refine ⟨⟨by omega, by omega, Nat.le_of_ble_eq_true rfl⟩, trivial, ?_⟩
      refine D_needFigure hG (fun hb c2 t2 => ?_) (fun hok1 c2 t2 => ?_)
      · refine af_X rfl (fun c3 t3 => ?_)
        exact hT1 ⟨by omega, fun y => hb ⟨y.1, by omega⟩⟩ I R _ _ (fun _ _ => rfl) rfl rfl hRK hC
      refine af_N (cc := 1) (tt := 6) rfl rfl rfl ?_
      try dsimp only
      try simp (disch := omega) only [wO hC.1]
      refine B_X9_underWay_30 ?_
      try dsimp only
      try simp (disch := omega) only [wO hC.1]
      refine ⟨so0, _, (by first | exact hRK2.x.1 | exact hRK.x.1), ?_⟩
      refine ⟨sw0 w1, _, (by first | exact (hRK2.w w1).orr | exact (hRK.w w1).orr), ?_⟩
      refine ⟨_, _, sw5 w1, ⟨by decide, by decide⟩, ⟨by omega, by omega⟩, _, (by first | exact (hRK2.w w1).o (by omega) | exact (hRK.w w1).o (by omega)), ?_⟩
      refine ⟨⟨Nat.zero_le _, Nat.zero_le _, Nat.le_of_ble_eq_true rfl⟩, swO w1 (by omega), ?_⟩
      have hfg : fig (odC I 1 p.toNat) w = uwZ z p.toNat w := by
        unfold uwZ
        rw [List.getD_eq_getElem?_getD, ← hC.2.1, oc_at (by omega)]
        rfl
      refine D_figureO hG w1 (k := p.toNat) (by omega) (w := w) (by omega) ?_
      rw [hfg]
      refine af_I0 rfl rfl (by decide) ?_
      try dsimp only
      try simp (disch := omega) only [wO hC.1]
      refine B_X9_underWay_43 ?_
      try dsimp only
      try simp (disch := omega) only [wO hC.1]
      exact hQ (by omega) I R _ _ (fun _ _ => rfl) rfl rfl hRK hC
    · refine B_X9_underWay_15 ?_
      try dsimp only
      try simp (disch := omega) only [wO hC.1]
      refine ⟨⟨by omega, by omega, Nat.le_of_ble_eq_true rfl⟩, ?_⟩
      exact hT0 (by omega) I R _ _ (fun _ _ => rfl) rfl rfl hRK hC
theorem D_countNow {G : amG} {I : Nat → Nat → Int} {R : Nat → Nat → Option Nat} {L : Nat → Nat → Int64} {x c t : Nat} {Q : amR → amH → Prop} (hG : amG0 G) (hRK : RK R) {z : Row} {n : Int} {zs : Nat → Row} (hC : CS I R z n zs) (hZ : ZF z) {w : Int} (hw : 0 ≤ w ∧ w ≤ 13) (hQ : Q (Sum.inl (some (aI (if w = 13 then n else cntZ z w)))) (I, R, L, (SH sT), x, 0, 0)) : CT G sX9_countNow [aR (some 0), aI w] (I, R, L, (SH sT), x, c, t) Q := by
  refine CT_of ok_X9_countNow hG (Nat.le_of_ble_eq_true rfl) ?_
  show X G mX9_countNow Q 0 _ [] (I, R, L, (SH sT), x, 0, 0)
  have hn1 := hZ.1.1.2.1.1
  have hn2 := hZ.1.1.2.1.2
  have hzo := hZ.1.2.1.1
  have h0C := hZ.1.2.2.1
  have hzm := hZ.2.1
  refine B_X9_countNow_0 ?_
  try dsimp only
  try simp only [hC.2.2.1]
  refine ⟨fun c3_0 => ?_, fun c3_0 => ?_⟩
  · refine B_X9_countNow_16 ?_
    try dsimp only
    try simp only [hC.2.2.1]
    refine ⟨so0, _, (by first | exact hRK2.x.1 | exact hRK.x.1), ?_⟩
    refine ⟨⟨Nat.zero_le _, Nat.zero_le _, Nat.le_of_ble_eq_true rfl⟩, sw0 w1, ?_⟩
    refine D_figure hG w1 (hRK.w w1) hC.1 hZ.1.1 (by omega) ?_
    refine af_I0 rfl rfl (by decide) ?_
    try dsimp only
    try simp only [hC.2.2.1]
    refine B_X9_countNow_24 ?_
    try dsimp only
    try simp only [hC.2.2.1]
    first
      | (rw [if_pos (by omega)] at hQ; exact hQ)
      | (rw [if_neg (by assumption)] at hQ; exact hQ)
  · refine ⟨so0, _, (by first | exact hRK2.x.2.2.1 | exact hRK.x.2.2.1), ?_⟩
    refine ⟨sh99, ?_⟩
    try simp only [hC.2.2.1]
    refine B_X9_countNow_24 ?_
    try dsimp only
    try simp only [hC.2.2.1]
    first
      | (rw [if_pos (by omega)] at hQ; exact hQ)
      | (rw [if_neg (by assumption)] at hQ; exact hQ)
theorem D_count {G : amG} {I : Nat → Nat → Int} {R : Nat → Nat → Option Nat} {L : Nat → Nat → Int64} {x c t : Nat} {Q : amR → amH → Prop} (hG : amG0 G) (hRK : RK R) {z : Row} {n : Int} {zs : Nat → Row} (hC : CS I R z n zs) (hZ : ZF z) {w : Int} (hT0 : ¬ (0 ≤ w ∧ w ≤ 13) → QW sT Q I L x (Sum.inr 1) z n zs) (hQ : (0 ≤ w ∧ w ≤ 13) → QW sT Q I L x (Sum.inl (some (aI (if w = 13 then n else cntZ z w)))) z n zs) : CT G sX9_count [aR (some 0), aI w] (I, R, L, (SH sT), x, c, t) Q := by
  refine CT_of ok_X9_count hG (Nat.le_of_ble_eq_true rfl) ?_
  show X G mX9_count Q 0 _ [] (I, R, L, (SH sT), x, 1, 6)
  have hn1 := hZ.1.1.2.1.1
  have hn2 := hZ.1.1.2.1.2
  have hzo := hZ.1.2.1.1
  have h0C := hZ.1.2.2.1
  have hzm := hZ.2.1
  refine B_X9_count_0 ?_
  try dsimp only
  refine ⟨⟨by omega, by omega, Nat.le_of_ble_eq_true rfl⟩, trivial, ?_⟩
  refine D_needFigure hG (fun hb c2 t2 => ?_) (fun hok1 c2 t2 => ?_)
  · refine af_X rfl (fun c3 t3 => ?_)
    exact hT0 (fun y => hb ⟨y.1, by omega⟩) I R _ _ (fun _ _ => rfl) rfl rfl hRK hC
  refine af_N (cc := 1) (tt := 6) rfl rfl rfl ?_
  try dsimp only
  refine B_X9_count_6 ?_
  try dsimp only
  refine ⟨⟨Nat.zero_le _, Nat.zero_le _, Nat.le_of_ble_eq_true rfl⟩, so0, ?_⟩
  refine D_countNow hG hRK hC hZ (by omega) ?_
  refine af_I0 rfl rfl (by decide) ?_
  try dsimp only
  refine B_X9_count_11 ?_
  try dsimp only
  exact hQ (by omega) I R _ _ (fun _ _ => rfl) rfl rfl hRK hC
theorem D_sees {G : amG} {I : Nat → Nat → Int} {R : Nat → Nat → Option Nat} {L : Nat → Nat → Int64} {x c t : Nat} {Q : amR → amH → Prop} (hG : amG0 G) (hRK : RK R) {z : Row} {n : Int} {zs : Nat → Row} (hC : CS I R z n zs) (hZ : ZF z) {v w : Int} (hT0 : ¬ ((0 ≤ v ∧ v ≤ 95) ∧ 0 ≤ w ∧ w ≤ 95) → QW sT Q I L x (Sum.inr 0) z n zs) (hQ : ((0 ≤ v ∧ v ≤ 95) ∧ 0 ≤ w ∧ w ≤ 95) → QW sT Q I L x (Sum.inl (some (aI (seeI z v w)))) z n zs) : CT G sX9_sees [aR (some 0), aI v, aI w] (I, R, L, (SH sT), x, c, t) Q := by
  refine CT_of ok_X9_sees hG (Nat.le_of_ble_eq_true rfl) ?_
  show X G mX9_sees Q 0 _ [] (I, R, L, (SH sT), x, 2, 12)
  have hn1 := hZ.1.1.2.1.1
  have hn2 := hZ.1.1.2.1.2
  have hzo := hZ.1.2.1.1
  have h0C := hZ.1.2.2.1
  have hzm := hZ.2.1
  refine B_X9_sees_0 ?_
  try dsimp only
  refine ⟨⟨by omega, by omega, Nat.le_of_ble_eq_true rfl⟩, trivial, ?_⟩
  refine D_needCell hG (fun hb c2 t2 => ?_) (fun hok1 c2 t2 => ?_)
  · refine af_X rfl (fun c3 t3 => ?_)
    exact hT0 (fun y => hb y.1) I R _ _ (fun _ _ => rfl) rfl rfl hRK hC
  refine af_N (cc := 1) (tt := 6) rfl rfl rfl ?_
  try dsimp only
  refine B_X9_sees_4 ?_
  try dsimp only
  refine ⟨⟨by omega, by omega, Nat.le_of_ble_eq_true rfl⟩, trivial, ?_⟩
  refine D_needCell hG (fun hb c2 t2 => ?_) (fun hok2 c2 t2 => ?_)
  · refine af_X rfl (fun c3 t3 => ?_)
    exact hT0 (fun y => hb y.2) I R _ _ (fun _ _ => rfl) rfl rfl hRK hC
  refine af_N (cc := 1) (tt := 6) rfl rfl rfl ?_
  try dsimp only
  refine B_X9_sees_8 ?_
  try dsimp only
  refine ⟨so0, _, (by first | exact hRK2.x.1 | exact hRK.x.1), ?_⟩
  refine ⟨sw0 w1, _, (by first | exact (hRK2.w w1).te | exact (hRK.w w1).te), ?_⟩
  refine ⟨⟨Nat.zero_le _, Nat.zero_le _, Nat.le_of_ble_eq_true rfl⟩, sw1 w1, ?_⟩
  refine D_inSight hG w1 (hRK.w w1) (wH hC.1) hZ.1.1.1 (v := v) (w := w) (by unfold isC; omega) (by unfold isC; omega) (fun r hr => ?_)
  have hs4 : (seeI z v w = 1 ∧ r = 1) ∨ (seeI z v w = 0 ∧ r = 0) := hr.imp (fun q => ⟨seeI_one q.1, q.2⟩) (fun q => ⟨seeI_zero q.1, q.2⟩)
  have hrs : r = seeI z v w := by omega
  refine af_I0 rfl rfl (by decide) ?_
  try dsimp only
  refine B_X9_sees_20 ?_
  try dsimp only
  refine ⟨by first | exact Or.inl rfl | exact Or.inr rfl | exact Or.inl trivial | exact Or.inr trivial | omega, ?_⟩
  have hQ := hQ ⟨hok1, hok2⟩
  rw [← hrs] at hQ
  exact hQ I R _ _ (fun _ _ => rfl) rfl rfl hRK hC
theorem D_distance {G : amG} {I : Nat → Nat → Int} {R : Nat → Nat → Option Nat} {L : Nat → Nat → Int64} {x c t : Nat} {Q : amR → amH → Prop} (hG : amG0 G) (hRK : RK R) {z : Row} {n : Int} {zs : Nat → Row} (hC : CS I R z n zs) (hZ : ZF z) {v w : Int} (hT0 : ¬ ((0 ≤ v ∧ v ≤ 95) ∧ 0 ≤ w ∧ w ≤ 95) → QW sT Q I L x (Sum.inr 0) z n zs) (hQ : ((0 ≤ v ∧ v ≤ 95) ∧ 0 ≤ w ∧ w ≤ 95) → QW sT Q I L x (Sum.inl (some (aI (dS z v w)))) z n zs) : CT G sX9_distance [aR (some 0), aI v, aI w] (I, R, L, (SH sT), x, c, t) Q := by
  refine CT_of ok_X9_distance hG (Nat.le_of_ble_eq_true rfl) ?_
  show X G mX9_distance Q 0 _ [] (I, R, L, (SH sT), x, 2, 12)
  have hn1 := hZ.1.1.2.1.1
  have hn2 := hZ.1.1.2.1.2
  have hzo := hZ.1.2.1.1
  have h0C := hZ.1.2.2.1
  have hzm := hZ.2.1
  refine B_X9_distance_0 ?_
  try dsimp only
  refine ⟨⟨by omega, by omega, Nat.le_of_ble_eq_true rfl⟩, trivial, ?_⟩
  refine D_needCell hG (fun hb c2 t2 => ?_) (fun hok1 c2 t2 => ?_)
  · refine af_X rfl (fun c3 t3 => ?_)
    exact hT0 (fun y => hb y.1) I R _ _ (fun _ _ => rfl) rfl rfl hRK hC
  refine af_N (cc := 1) (tt := 6) rfl rfl rfl ?_
  try dsimp only
  refine B_X9_distance_4 ?_
  try dsimp only
  refine ⟨⟨by omega, by omega, Nat.le_of_ble_eq_true rfl⟩, trivial, ?_⟩
  refine D_needCell hG (fun hb c2 t2 => ?_) (fun hok2 c2 t2 => ?_)
  · refine af_X rfl (fun c3 t3 => ?_)
    exact hT0 (fun y => hb y.2) I R _ _ (fun _ _ => rfl) rfl rfl hRK hC
  refine af_N (cc := 1) (tt := 6) rfl rfl rfl ?_
  try dsimp only
  refine B_X9_distance_8 ?_
  try dsimp only
  refine ⟨so0, _, (by first | exact hRK2.x.2.2.2.2.1 | exact hRK.x.2.2.2.2.1), ?_⟩
  refine ⟨so0, _, (by first | exact hRK2.x.1 | exact hRK.x.1), ?_⟩
  refine ⟨sw0 w1, _, (by first | exact (hRK2.w w1).te | exact (hRK.w w1).te), ?_⟩
  refine ⟨⟨Nat.zero_le _, Nat.zero_le _, Nat.le_of_ble_eq_true rfl⟩, sc0, ?_⟩
  rw [← p3_self I 351]
  refine D_stepsBetween hG w1 (hRK.w w1) hRK.c hRK.p1 hC.2.2.2.2.2 (wH hC.1) hZ.1.1.1 (by unfold isC; omega) (by unfold isC; omega) (fun f2 q2 => ?_)
  refine af_I0 rfl rfl (by decide) ?_
  try dsimp only
  refine B_X9_distance_24 ?_
  try dsimp only
  exact hQ ⟨hok1, hok2⟩ _ R _ _ (fun a ha => p3_o _ _ _ _ (by omega)) (p3_o _ _ _ _ (by decide)) (p3_o _ _ _ _ (by decide)) hRK (CS_off hC hZ (fun a ha => p3_o _ _ _ _ (by omega)))
theorem D_why {G : amG} {I : Nat → Nat → Int} {R : Nat → Nat → Option Nat} {L : Nat → Nat → Int64} {x c t : Nat} {Q : amR → amH → Prop} (hG : amG0 G) (hRK : RK R) {z : Row} {n : Int} {zs : Nat → Row} (hC : CS I R z n zs) (hZ : ZF z) {k : Int} (hT0 : ¬ (0 ≤ k ∧ k < z 98) → QW sT Q I L x (Sum.inr 0) z n zs) (hQ : (0 ≤ k ∧ k < z 98) → QW sT Q I L x (Sum.inl (some (aI (whyN z k.toNat)))) z n zs) : CT G sX9_why [aR (some 0), aI k] (I, R, L, (SH sT), x, c, t) Q := by
  refine CT_of ok_X9_why hG (Nat.le_of_ble_eq_true rfl) ?_
  show X G mX9_why Q 0 _ [] (I, R, L, (SH sT), x, 1, 6)
  have hn1 := hZ.1.1.2.1.1
  have hn2 := hZ.1.1.2.1.2
  have hzo := hZ.1.2.1.1
  have h0C := hZ.1.2.2.1
  have hzm := hZ.2.1
  refine B_X9_why_0 ?_
  try dsimp only
  refine ⟨⟨by omega, by omega, Nat.le_of_ble_eq_true rfl⟩, so0, ?_⟩
  refine D_needTroop hG hRK (wN hC.1) (fun hb c2 t2 => ?_) (fun hok1 c2 t2 => ?_)
  · refine af_X rfl (fun c3 t3 => ?_)
    exact hT0 hb I R _ _ (fun _ _ => rfl) rfl rfl hRK hC
  refine af_N (cc := 1) (tt := 6) rfl rfl rfl ?_
  try dsimp only
  refine B_X9_why_5 ?_
  try dsimp only
  refine ⟨so0, _, (by first | exact hRK2.x.2.2.2.2.1 | exact hRK.x.2.2.2.2.1), ?_⟩
  refine ⟨so0, _, (by first | exact hRK2.x.1 | exact hRK.x.1), ?_⟩
  refine ⟨⟨Nat.zero_le _, Nat.zero_le _, Nat.le_of_ble_eq_true rfl⟩, sc0, ?_⟩
  rw [← p3_self I 351]
  refine D_refusal hG w1 (hRK.w w1) hRK.c hRK.p1 hC.2.2.2.2.2 hC.1 hZ.1.1 hok1 hzo (fun f2 q2 => ?_)
  refine af_I0 rfl rfl (by decide) ?_
  try dsimp only
  refine B_X9_why_17 ?_
  try dsimp only
  exact hQ hok1 _ R _ _ (fun a ha => p3_o _ _ _ _ (by omega)) (p3_o _ _ _ _ (by decide)) (p3_o _ _ _ _ (by decide)) hRK (CS_off hC hZ (fun a ha => p3_o _ _ _ _ (by omega)))
theorem D_strengthLeft {G : amG} {I : Nat → Nat → Int} {R : Nat → Nat → Option Nat} {L : Nat → Nat → Int64} {x c t : Nat} {Q : amR → amH → Prop} (hG : amG0 G) (hRK : RK R) {z : Row} {n : Int} {zs : Nat → Row} (hC : CS I R z n zs) (hZ : ZF z) (hQ : QW sT Q I L x (Sum.inl (some (aD (shZr z)))) z n zs) : CT G sX9_strengthLeft [aR (some 0)] (I, R, L, (SH sT), x, c, t) Q := by
  refine CT_of ok_X9_strengthLeft hG (Nat.le_of_ble_eq_true rfl) ?_
  show X G mX9_strengthLeft Q 0 _ [] (I, R, L, (SH sT), x, 0, 0)
  have hn1 := hZ.1.1.2.1.1
  have hn2 := hZ.1.1.2.1.2
  have hzo := hZ.1.2.1.1
  have h0C := hZ.1.2.2.1
  have hzm := hZ.2.1
  refine B_X9_strengthLeft_0 ?_
  try dsimp only
  refine ⟨so0, _, (by first | exact hRK2.x.1 | exact hRK.x.1), ?_⟩
  refine ⟨⟨Nat.zero_le _, Nat.zero_le _, Nat.le_of_ble_eq_true rfl⟩, sw0 w1, ?_⟩
  refine D_shareLeft hG w1 (hRK.w w1) hC.1 hZ.1.1 ?_
  refine af_I0 rfl rfl (by decide) ?_
  try dsimp only
  refine B_X9_strengthLeft_7 ?_
  try dsimp only
  refine ⟨rfl, ?_⟩
  exact hQ I R _ _ (fun _ _ => rfl) rfl rfl hRK hC
theorem D_ifPassed {G : amG} {I : Nat → Nat → Int} {R : Nat → Nat → Option Nat} {L : Nat → Nat → Int64} {x c t : Nat} {Q : amR → amH → Prop} (hG : amG0 G) (hRK : RK R) {z : Row} {n : Int} {zs : Nat → Row} (hC : CS I R z n zs) (hZ : ZF z) {u w : Int} (hT0 : ¬ ((1 ≤ u ∧ u ≤ 50) ∧ (w = 2 ∨ w = 3 ∨ (6 ≤ w ∧ w ≤ 10))) → QW sT Q I L x (Sum.inr 1) z n zs) (hQ : ((1 ≤ u ∧ u ≤ 50) ∧ (w = 2 ∨ w = 3 ∨ (6 ≤ w ∧ w ≤ 10))) → QW sT Q I L x (Sum.inl (some (aI (cntZ (passN z u.toNat) w)))) z n zs) : CT G sX9_ifPassed [aR (some 0), aI u, aI w] (I, R, L, (SH sT), x, c, t) Q := by
  refine CT_of ok_X9_ifPassed hG (Nat.le_of_ble_eq_true rfl) ?_
  show X G mX9_ifPassed Q 0 _ [] (I, R, L, (SH sT), x, 2, 12)
  have hn1 := hZ.1.1.2.1.1
  have hn2 := hZ.1.1.2.1.2
  have hzo := hZ.1.2.1.1
  have h0C := hZ.1.2.2.1
  have hzm := hZ.2.1
  refine B_X9_ifPassed_0 ?_
  try dsimp only
  refine ⟨⟨by omega, by omega, Nat.le_of_ble_eq_true rfl⟩, trivial, ?_⟩
  refine D_needTurns hG (fun hb c2 t2 => ?_) (fun hok1 c2 t2 => ?_)
  · refine af_X rfl (fun c3 t3 => ?_)
    exact hT0 (fun y => hb y.1) I R _ _ (fun _ _ => rfl) rfl rfl hRK hC
  refine af_N (cc := 1) (tt := 6) rfl rfl rfl ?_
  try dsimp only
  refine B_X9_ifPassed_4 ?_
  try dsimp only
  refine ⟨fun c6_1 => ?_, fun c6_1 => ?_⟩
  · refine B_X9_ifPassed_36 ?_
    try dsimp only
    refine ⟨so0, _, (by first | exact hRK2.x.2.1 | exact hRK.x.2.1), ?_⟩
    refine ⟨so0, _, (by first | exact hRK2.x.1 | exact hRK.x.1), ?_⟩
    refine ⟨⟨Nat.zero_le _, Nat.zero_le _, Nat.le_of_ble_eq_true rfl⟩, (by first | exact sw0 w1 | exact sw0 w50), ?_⟩
    refine D_copyWar hG w50 (hRK.w w50) w1 (hRK.w w1) (by decide) hC.1 hZ.1.1.2.1 hzo (fun J j1 j2 j3 => ?_)
    have hO50 : WO J 50 z := by
      unfold WO
      rw [← hC.2.1]
      unfold oc
      exact List.map_congr_left (fun i hi => j3 i (by have := List.mem_range.mp hi; omega))
    refine af_N0 rfl rfl rfl ?_
    try dsimp only
    refine B_X9_ifPassed_47 ?_
    try dsimp only
    refine ⟨so0, _, (by first | exact hRK2.x.2.2.2.2.2 | exact hRK.x.2.2.2.2.2), ?_⟩
    refine ⟨so0, _, (by first | exact hRK2.x.2.1 | exact hRK.x.2.1), ?_⟩
    refine ⟨⟨Nat.zero_le _, Nat.zero_le _, Nat.le_of_ble_eq_true rfl⟩, sa0, ?_⟩
    refine D_play hG w50 (hRK.w w50) j2 hO50 hZ.1 (by omega) hRK.a hRK.p2 (fun K k1 k2 k3 => ?_)
    refine af_N0 rfl rfl rfl ?_
    try dsimp only
    refine B_X9_ifPassed_59 ?_
    try dsimp only
    refine ⟨so0, _, (by first | exact hRK2.x.2.1 | exact hRK.x.2.1), ?_⟩
    refine ⟨⟨Nat.zero_le _, Nat.zero_le _, Nat.le_of_ble_eq_true rfl⟩, (by first | exact sw0 w1 | exact sw0 w50), ?_⟩
    refine D_figure hG w50 (hRK.w w50) k2 (passN_inv hZ.1 u.toNat (by omega)).1.1 (by omega) ?_
    refine af_I0 rfl rfl (by decide) ?_
    try dsimp only
    refine B_X9_ifPassed_67 ?_
    try dsimp only
    exact hQ (by omega) K R _ _ (fun a ha => by rw [k1 a (by omega) (by omega) (by omega) (by omega), j1 a (by omega)]) (by rw [k1 346 (by omega) (by decide) (by decide) (by decide), j1 346 (by omega)]) (by rw [k1 347 (by omega) (by decide) (by decide) (by decide), j1 347 (by omega)]) hRK (CS_off hC hZ (fun a ha => by rw [k1 a (by omega) (by omega) (by omega) (by omega), j1 a (by omega)]))
  · refine ⟨fun c11_1 => ?_, fun c11_1 => ?_⟩
    · refine B_X9_ifPassed_36 ?_
      try dsimp only
      refine ⟨so0, _, (by first | exact hRK2.x.2.1 | exact hRK.x.2.1), ?_⟩
      refine ⟨so0, _, (by first | exact hRK2.x.1 | exact hRK.x.1), ?_⟩
      refine ⟨⟨Nat.zero_le _, Nat.zero_le _, Nat.le_of_ble_eq_true rfl⟩, (by first | exact sw0 w1 | exact sw0 w50), ?_⟩
      refine D_copyWar hG w50 (hRK.w w50) w1 (hRK.w w1) (by decide) hC.1 hZ.1.1.2.1 hzo (fun J j1 j2 j3 => ?_)
      have hO50 : WO J 50 z := by
        unfold WO
        rw [← hC.2.1]
        unfold oc
        exact List.map_congr_left (fun i hi => j3 i (by have := List.mem_range.mp hi; omega))
      refine af_N0 rfl rfl rfl ?_
      try dsimp only
      refine B_X9_ifPassed_47 ?_
      try dsimp only
      refine ⟨so0, _, (by first | exact hRK2.x.2.2.2.2.2 | exact hRK.x.2.2.2.2.2), ?_⟩
      refine ⟨so0, _, (by first | exact hRK2.x.2.1 | exact hRK.x.2.1), ?_⟩
      refine ⟨⟨Nat.zero_le _, Nat.zero_le _, Nat.le_of_ble_eq_true rfl⟩, sa0, ?_⟩
      refine D_play hG w50 (hRK.w w50) j2 hO50 hZ.1 (by omega) hRK.a hRK.p2 (fun K k1 k2 k3 => ?_)
      refine af_N0 rfl rfl rfl ?_
      try dsimp only
      refine B_X9_ifPassed_59 ?_
      try dsimp only
      refine ⟨so0, _, (by first | exact hRK2.x.2.1 | exact hRK.x.2.1), ?_⟩
      refine ⟨⟨Nat.zero_le _, Nat.zero_le _, Nat.le_of_ble_eq_true rfl⟩, (by first | exact sw0 w1 | exact sw0 w50), ?_⟩
      refine D_figure hG w50 (hRK.w w50) k2 (passN_inv hZ.1 u.toNat (by omega)).1.1 (by omega) ?_
      refine af_I0 rfl rfl (by decide) ?_
      try dsimp only
      refine B_X9_ifPassed_67 ?_
      try dsimp only
      exact hQ (by omega) K R _ _ (fun a ha => by rw [k1 a (by omega) (by omega) (by omega) (by omega), j1 a (by omega)]) (by rw [k1 346 (by omega) (by decide) (by decide) (by decide), j1 346 (by omega)]) (by rw [k1 347 (by omega) (by decide) (by decide) (by decide), j1 347 (by omega)]) hRK (CS_off hC hZ (fun a ha => by rw [k1 a (by omega) (by omega) (by omega) (by omega), j1 a (by omega)]))
    · refine ⟨fun c17_1 => ?_, fun c17_1 => ?_⟩
      · refine B_X9_ifPassed_26 ?_
        try dsimp only
        refine ⟨⟨by omega, by omega, Nat.le_of_ble_eq_true rfl⟩, ?_⟩
        exact hT0 (by omega) I R _ _ (fun _ _ => rfl) rfl rfl hRK hC
      · refine ⟨fun c23_1 => ?_, fun c23_1 => ?_⟩
        · refine B_X9_ifPassed_36 ?_
          try dsimp only
          refine ⟨so0, _, (by first | exact hRK2.x.2.1 | exact hRK.x.2.1), ?_⟩
          refine ⟨so0, _, (by first | exact hRK2.x.1 | exact hRK.x.1), ?_⟩
          refine ⟨⟨Nat.zero_le _, Nat.zero_le _, Nat.le_of_ble_eq_true rfl⟩, (by first | exact sw0 w1 | exact sw0 w50), ?_⟩
          refine D_copyWar hG w50 (hRK.w w50) w1 (hRK.w w1) (by decide) hC.1 hZ.1.1.2.1 hzo (fun J j1 j2 j3 => ?_)
          have hO50 : WO J 50 z := by
            unfold WO
            rw [← hC.2.1]
            unfold oc
            exact List.map_congr_left (fun i hi => j3 i (by have := List.mem_range.mp hi; omega))
          refine af_N0 rfl rfl rfl ?_
          try dsimp only
          refine B_X9_ifPassed_47 ?_
          try dsimp only
          refine ⟨so0, _, (by first | exact hRK2.x.2.2.2.2.2 | exact hRK.x.2.2.2.2.2), ?_⟩
          refine ⟨so0, _, (by first | exact hRK2.x.2.1 | exact hRK.x.2.1), ?_⟩
          refine ⟨⟨Nat.zero_le _, Nat.zero_le _, Nat.le_of_ble_eq_true rfl⟩, sa0, ?_⟩
          refine D_play hG w50 (hRK.w w50) j2 hO50 hZ.1 (by omega) hRK.a hRK.p2 (fun K k1 k2 k3 => ?_)
          refine af_N0 rfl rfl rfl ?_
          try dsimp only
          refine B_X9_ifPassed_59 ?_
          try dsimp only
          refine ⟨so0, _, (by first | exact hRK2.x.2.1 | exact hRK.x.2.1), ?_⟩
          refine ⟨⟨Nat.zero_le _, Nat.zero_le _, Nat.le_of_ble_eq_true rfl⟩, (by first | exact sw0 w1 | exact sw0 w50), ?_⟩
          refine D_figure hG w50 (hRK.w w50) k2 (passN_inv hZ.1 u.toNat (by omega)).1.1 (by omega) ?_
          refine af_I0 rfl rfl (by decide) ?_
          try dsimp only
          refine B_X9_ifPassed_67 ?_
          try dsimp only
          exact hQ (by omega) K R _ _ (fun a ha => by rw [k1 a (by omega) (by omega) (by omega) (by omega), j1 a (by omega)]) (by rw [k1 346 (by omega) (by decide) (by decide) (by decide), j1 346 (by omega)]) (by rw [k1 347 (by omega) (by decide) (by decide) (by decide), j1 347 (by omega)]) hRK (CS_off hC hZ (fun a ha => by rw [k1 a (by omega) (by omega) (by omega) (by omega), j1 a (by omega)]))
        · refine B_X9_ifPassed_26 ?_
          try dsimp only
          refine ⟨⟨by omega, by omega, Nat.le_of_ble_eq_true rfl⟩, ?_⟩
          exact hT0 (by omega) I R _ _ (fun _ _ => rfl) rfl rfl hRK hC
/-! ===== the class: arrivesIn ===== -/
theorem setN_gone {z : Row} {k : Nat} (h : tf z k 4 = 2) : ∀ n : Nat, tf (setN z n) k 4 = 2 := by
  intro n
  induction n with
  | zero => exact h
  | succ n ih =>
    rw [setN_s]
    have := settZ_4 (z := setN z n) (k := n) (l := k)
    omega
theorem gone_stays {z : Row} (hW : WF z) {k : Nat} (hk : (k : Int) < z 98) (h : tf z k 4 = 2) : tf (passZ z) k 4 = 2 := by
  have hn1 := hW.1.2.1.1
  have hn2 := hW.1.2.1.2
  obtain ⟨b0, o0⟩ := tick_B hW
  obtain ⟨b1, o1⟩ := comeAll_B b0 o0
  obtain ⟨c1, c2, c3, c4, c5⟩ := comeAll_all (wfO_12 b0.2.1 o0) o0.1
  obtain ⟨p1, p2, p3, p4, p5, p6⟩ := psA_inv hW
  have e98 : comeAllZ (uz z 316 (z 316 + 1)) 98 = z 98 := by
    rw [c1 98 (by omega) (by decide)]
    exact uz_ne _ _ (by decide)
  have hm := (mchN_inv b1 (z 98).toNat (by omega)).2.2 k 4 (by decide) (by decide)
  rw [c3 k 4 (by omega) (by decide) (by decide) (by decide), tf_off (by omega) (by omega) (by decide), h] at hm
  have hm : tf (psA z) k 4 = 2 := hm
  have hp98 := p3 98 (by omega)
  obtain ⟨v, v0, v1, f6, f2, f4, fg⟩ := fightZ_t p1.2.1 p1.2.2.1 (l := k) (by omega)
  refine setN_gone ?_ _
  rw [f4, hm]
  split <;> rfl
theorem arF_gone {z : Row} (hW : WF z) {k : Nat} (hk : (k : Int) < z 98) : ∀ (g n : Nat), z 316 + n + g ≤ 1062 → tf (passN z n) k 4 = 2 → arF z k g n = -1 := by
  intro g
  induction g with
  | zero => intro n _ _; rfl
  | succ g ih =>
    intro n hn h
    obtain ⟨h1, h2, h3, h4, h5, h6⟩ := passN_inv hW n (by omega)
    rw [arF_s, if_neg (fun q => by have q := of_decide_eq_true q; exact q.1 h)]
    rcases (by omega : g = 0 ∨ 0 < g) with u | u
    · rw [u]; rfl
    · exact ih (n + 1) (by omega) (gone_stays h1 (by omega) h)
theorem L_arrivesInC {G : amG} {I : Nat → Nat → Int} {R : Nat → Nat → Option Nat} {L : Nat → Nat → Int64} {x c1 t1 : Nat} {Q : amR → amH → Prop} (hG : amG0 G) (hRK : RK R) {z : Row} {n : Int} {zs : Nat → Row} (hC : CS I R z n zs) (hZ : ZF z) {k : Int} (hk : 0 ≤ k ∧ k < z 98) (hQ : ∀ J : Nat → Nat → Int, (∀ a : Nat, a < 50 ∨ 99 ≤ a → a ≠ 358 → a ≠ 359 → a ≠ 360 → J a = I a) → Q (Sum.inl (some (aI (arF z k.toNat 61 0)))) (J, R, L, (SH sT), x, c1, t1)) :
    ∀ (n_ : Nat) (j : Int) (J : Nat → Nat → Int), (0 ≤ j ∧ j ≤ 61 ∧ 61 - j < n_) → (∀ a : Nat, a < 50 ∨ 99 ≤ a → a ≠ 358 → a ≠ 359 → a ≠ 360 → J a = I a) → WV J 50 (passN z j.toNat) → WO J 50 (passN z j.toNat) → arF z k.toNat (61 - j.toNat) j.toNat = arF z k.toNat 61 0 → X G mX9_arrivesIn Q 28 [some (aR (some 0)), some (aI k), some (aR (some (50 + 7 + k.toNat))), some (aI j)] [] (J, R, L, (SH sT), x, c1, t1) := by
  intro n_
  induction n_ with
  | zero =>
    intros
    exfalso; omega
  | succ n_ ih =>
    intro j J h1 hF hJ hO ha
    have hn2 := hZ.1.1.2.1.2
    have h0C := hZ.1.2.2.1
    have hzm := hZ.2.1
    obtain ⟨z1, z2, z3, z4, z5, z6⟩ := passN_inv hZ.1 j.toNat (by omega)
    have hs := passN_s z j.toNat
    have hg : j ≤ 60 → arF z k.toNat (61 - j.toNat) j.toNat = if atG (passN z j.toNat) k.toNat = true then (j.toNat : Int) else arF z k.toNat (60 - j.toNat) (j.toNat + 1) := fun q => by
      rw [show 61 - j.toNat = (60 - j.toNat) + 1 by omega, arF_s]
    have hgone := arF_gone hZ.1 (k := k.toNat) (by omega) (61 - j.toNat) j.toNat (by omega)
    refine B_X9_arrivesIn_28 ?_
    try dsimp only
    try simp (disch := omega) only [wT hJ]
    refine ⟨fun c31_0 => ?_, fun c31_0 => ?_⟩
    · refine B_X9_arrivesIn_75 ?_
      try dsimp only
      try simp (disch := omega) only [wT hJ]
      first
        | (have e61 : 61 - j.toNat = 0 := by omega
           rw [e61] at ha
           have e : arF z k.toNat 61 0 = -1 := ha.symm
           have hQ := hQ J hF
           rw [e] at hQ
           exact hQ)
        | (have hgn : tf (passN z j.toNat) k.toNat 4 = 2 := by omega
           have hQ := hQ J hF
           rw [← ha, hgone hgn] at hQ
           exact hQ)
        | (have hg := hg (by omega)
           rw [if_pos (show atG (passN z j.toNat) k.toNat = true from decide_eq_true (by omega))] at hg
           have hQ := hQ J hF
           rw [← ha, hg, show ((j.toNat : Nat) : Int) = j by omega] at hQ
           exact hQ)
    · refine ⟨swT w50 (by omega), ?_⟩
      try simp (disch := omega) only [wT hJ]
      refine ⟨fun c39_0 => ?_, fun c39_0 => ?_⟩
      · refine B_X9_arrivesIn_44 ?_
        try dsimp only
        try simp (disch := omega) only [wT hJ]
        refine ⟨swT w50 (by omega), ?_⟩
        try simp (disch := omega) only [wT hJ]
        refine ⟨swT w50 (by omega), ?_⟩
        try simp (disch := omega) only [wT hJ]
        refine ⟨fun c52_1 => ?_, fun c52_1 => ?_⟩
        · refine B_X9_arrivesIn_57 ?_
          try dsimp only
          try simp (disch := omega) only [wT hJ]
          refine ⟨so0, _, (by first | exact hRK2.x.2.2.2.2.2 | exact hRK.x.2.2.2.2.2), ?_⟩
          refine ⟨so0, _, (by first | exact hRK2.x.2.1 | exact hRK.x.2.1), ?_⟩
          refine ⟨⟨Nat.zero_le _, Nat.zero_le _, Nat.le_of_ble_eq_true rfl⟩, sa0, ?_⟩
          refine D_play hG w50 (hRK.w w50) hJ hO z1 (by omega) hRK.a hRK.p2 (fun K k1 k2 k3 => ?_)
          have k2 : WV K 50 (passZ (passN z j.toNat)) := k2
          have k3 : WO K 50 (passZ (passN z j.toNat)) := k3
          have hg := hg (by omega)
          refine af_N0 rfl rfl rfl ?_
          try dsimp only
          try simp (disch := omega) only [wT hJ]
          refine B_X9_arrivesIn_69 ?_
          try dsimp only
          try simp (disch := omega) only [wT hJ]
          refine ⟨by (refine ⟨?_, ?_⟩ <;> omega), ?_⟩
          rw [if_neg (fun q => by have q := of_decide_eq_true q; omega)] at hg
          refine ih (j + 1) K (by omega) (fun a a1 a2 a3 a4 => by rw [k1 a (by omega) a2 a3 a4]; exact hF a a1 a2 a3 a4) ?_ ?_ ?_
          · rw [show (j + 1).toNat = j.toNat + 1 by omega, hs]; exact k2
          · rw [show (j + 1).toNat = j.toNat + 1 by omega, hs]; exact k3
          · rw [show (j + 1).toNat = j.toNat + 1 by omega, ← ha, hg]
            congr 1
            omega
        · first
            | (have e61 : 61 - j.toNat = 0 := by omega
               rw [e61] at ha
               have e : arF z k.toNat 61 0 = -1 := ha.symm
               have hQ := hQ J hF
               rw [e] at hQ
               exact hQ)
            | (have hgn : tf (passN z j.toNat) k.toNat 4 = 2 := by omega
               have hQ := hQ J hF
               rw [← ha, hgone hgn] at hQ
               exact hQ)
            | (have hg := hg (by omega)
               rw [if_pos (show atG (passN z j.toNat) k.toNat = true from decide_eq_true (by omega))] at hg
               have hQ := hQ J hF
               rw [← ha, hg, show ((j.toNat : Nat) : Int) = j by omega] at hQ
               exact hQ)
      · first
          | (have e61 : 61 - j.toNat = 0 := by omega
             rw [e61] at ha
             have e : arF z k.toNat 61 0 = -1 := ha.symm
             have hQ := hQ J hF
             rw [e] at hQ
             exact hQ)
          | (have hgn : tf (passN z j.toNat) k.toNat 4 = 2 := by omega
             have hQ := hQ J hF
             rw [← ha, hgone hgn] at hQ
             exact hQ)
          | (have hg := hg (by omega)
             rw [if_pos (show atG (passN z j.toNat) k.toNat = true from decide_eq_true (by omega))] at hg
             have hQ := hQ J hF
             rw [← ha, hg, show ((j.toNat : Nat) : Int) = j by omega] at hQ
             exact hQ)
theorem D_arrivesIn {G : amG} {I : Nat → Nat → Int} {R : Nat → Nat → Option Nat} {L : Nat → Nat → Int64} {x c t : Nat} {Q : amR → amH → Prop} (hG : amG0 G) (hRK : RK R) {z : Row} {n : Int} {zs : Nat → Row} (hC : CS I R z n zs) (hZ : ZF z) {k : Int} (hT0 : ¬ (0 ≤ k ∧ k < z 98) → QW sT Q I L x (Sum.inr 0) z n zs) (hQ : (0 ≤ k ∧ k < z 98) → QW sT Q I L x (Sum.inl (some (aI (arF z k.toNat 61 0)))) z n zs) : CT G sX9_arrivesIn [aR (some 0), aI k] (I, R, L, (SH sT), x, c, t) Q := by
  refine CT_of ok_X9_arrivesIn hG (Nat.le_of_ble_eq_true rfl) ?_
  show X G mX9_arrivesIn Q 0 _ [] (I, R, L, (SH sT), x, 1, 6)
  have hn2 := hZ.1.1.2.1.2
  refine B_X9_arrivesIn_0 ?_
  try dsimp only
  refine ⟨⟨by omega, by omega, Nat.le_of_ble_eq_true rfl⟩, so0, ?_⟩
  refine D_needTroop hG hRK (wN hC.1) (fun hb c2 t2 => ?_) (fun hok1 c2 t2 => ?_)
  · refine af_X rfl (fun c3 t3 => ?_)
    exact hT0 hb I R _ _ (fun _ _ => rfl) rfl rfl hRK hC
  refine af_N (cc := 1) (tt := 6) rfl rfl rfl ?_
  try dsimp only
  refine B_X9_arrivesIn_5 ?_
  try dsimp only
  refine ⟨so0, _, (by first | exact hRK2.x.2.1 | exact hRK.x.2.1), ?_⟩
  refine ⟨so0, _, (by first | exact hRK2.x.1 | exact hRK.x.1), ?_⟩
  refine ⟨⟨Nat.zero_le _, Nat.zero_le _, Nat.le_of_ble_eq_true rfl⟩, (by first | exact sw0 w1 | exact sw0 w50), ?_⟩
  refine D_copyWar hG w50 (hRK.w w50) w1 (hRK.w w1) (by decide) hC.1 hZ.1.1.2.1 hZ.1.2.1.1 (fun J j1 j2 j3 => ?_)
  have hO50 : WO J 50 z := by
    unfold WO
    rw [← hC.2.1]
    unfold oc
    exact List.map_congr_left (fun i hi => j3 i (by have := List.mem_range.mp hi; omega))
  refine af_N0 rfl rfl rfl ?_
  try dsimp only
  refine B_X9_arrivesIn_16 ?_
  try dsimp only
  refine ⟨so0, _, (by first | exact hRK2.x.2.1 | exact hRK.x.2.1), ?_⟩
  refine ⟨(by first | exact sw0 w1 | exact sw0 w50), _, (hRK.w w50).tr, ?_⟩
  refine ⟨_, _, sw4 w50, ⟨by decide, by decide⟩, ⟨by omega, by omega⟩, _, (hRK.w w50).t (by omega), ?_⟩
  refine L_arrivesInC hG hRK hC hZ hok1 (fun K k1 => ?_) 62 0 J (by omega) (fun a a1 a2 a3 a4 => j1 a (by omega)) j2 hO50 rfl
  exact hQ hok1 K R _ _ (fun a ha => k1 a (by omega) (by omega) (by omega) (by omega)) (k1 346 (by omega) (by decide) (by decide) (by decide)) (k1 347 (by omega) (by decide) (by decide) (by decide)) hRK (CS_off hC hZ (fun a ha => k1 a (by omega) (by omega) (by omega) (by omega)))
