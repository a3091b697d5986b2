variable {sT : List (Nat × Nat)}
/-! ===== the class: what is done ===== -/
/-- Q holds of the end r where the class reads so *-/
abbrev xx : amR → Nat → Nat
  | Sum.inl _, x => x
  | Sum.inr _, x => x + 1
def QW (sT : List (Nat × Nat)) (Q : amR → amH → Prop) (I : Nat → Nat → Int) (L : Nat → Nat → Int64) (x : Nat) (r : amR) (z : Row) (n : Int) (zs : Nat → Row) : Prop := ∀ (J : Nat → Nat → Int) (R' : Nat → Nat → Option Nat) (c t : Nat), (∀ a : Nat, 361 ≤ a → J a = I a) → J 346 = I 346 → J 347 = I 347 → RK R' → CS J R' z n zs → Q r (J, R', L, (SH sT), xx r x, c, t)
theorem svN_b {n : Int} (h : 0 ≤ n ∧ n ≤ 5) : 0 ≤ svN n ∧ svN n ≤ 5 := by
  unfold svN
  split <;> omega
theorem D_saveCS {G : amG} {I : Nat → Nat → Int} {R : Nat → Nat → Option Nat} {L : Nat → Nat → Int64} {x c t : Nat} {Q : amR → amH → Prop} (hG : amG0 G) (hRK : RK R) {z : Row} {n : Int} {zs : Nat → Row} (hC : CS I R z n zs) (hZ : ZF z) (hQ : ∀ (J : Nat → Nat → Int) (R' : Nat → Nat → Option Nat), (∀ a : Nat, a < 99 ∨ 346 ≤ a → J a = I a) → RK R' → CS J R' z (svN n) (svZ n zs z) → Q (Sum.inl none) (J, R', L, (SH sT), x, 0, 0)) : CT G sX1_save [aR (some 99), aR (some 1)] (I, R, L, (SH sT), x, c, t) Q := by
  obtain ⟨h1, h2, h3, h4, h5, h6⟩ := hC
  refine D_save hG hRK.hi h1 h2 hZ.1.1.2.1 hZ.1.2.1.1 (fun b hb => hRK.w hb) h3 h4 h5 (fun J R' j1 r1 j3 j4 => ?_)
  exact hQ J R' j1 (RK_100 hRK r1) ⟨WV_off h1 hZ.1.1.2.1.2 (fun a u1 u2 => j1 a (by omega)), WO_off h2 hZ.1.2.1.1 (fun a u1 u2 => j1 a (by omega)), j3, svN_b h4, j4, fun t ht => by rw [j1 354 (by omega)]; exact h6 t ht⟩
theorem CS_war {J K : Nat → Nat → Int} {R : Nat → Nat → Option Nat} {z y : Row} {n : Int} {zs : Nat → Row} (h : CS J R z n zs) (hz : 0 ≤ z 195 ∧ z 195 ≤ 30) (hk : ∀ c : Nat, c < 1 ∨ 20 ≤ c → K c = J c) (hW : WV K 1 y) (hy : ∀ i : Nat, 195 ≤ i → i < 316 → y i = z i) : CS K R y n zs := by
  obtain ⟨h1, h2, h3, h4, h5, h6⟩ := h
  refine ⟨hW, WO_keep h2 hz (fun n hn => oc_congr (fun k hk2 => ?_)) hy, by rw [hk 99 (by omega)]; exact h3, h4, SV_off h5 h4.2 (fun c u1 u2 => hk c (by omega)), fun t ht => by rw [hk 354 (by omega)]; exact h6 t ht⟩
  unfold odC
  rw [hk _ (by omega)]
theorem D_shape {G : amG} {I : Nat → Nat → Int} {R : Nat → Nat → Option Nat} {L : Nat → Nat → Int64} {x c t : Nat} {Q : amR → amH → Prop} (hG : amG0 G) (hRK : RK R) {z : Row} {n : Int} {zs : Nat → Row} (hC : CS I R z n zs) (hZ : ZF z) {u v w : Int} (hT0 : ¬ ((0 ≤ u ∧ u ≤ 95) ∧ 0 ≤ v ∧ v ≤ 95) → QW sT Q I L x (Sum.inr 0) z n zs) (hT1 : ((0 ≤ u ∧ u ≤ 95) ∧ 0 ≤ v ∧ v ≤ 95) ∧ ¬ ((u % 12 ≤ v % 12 ∧ u / 12 ≤ v / 12) ∧ 0 ≤ w ∧ w ≤ 9) → QW sT Q I L x (Sum.inr 1) z n zs) (hQ : ((0 ≤ u ∧ u ≤ 95) ∧ 0 ≤ v ∧ v ≤ 95) ∧ ((u % 12 ≤ v % 12 ∧ u / 12 ≤ v / 12) ∧ 0 ≤ w ∧ w ≤ 9) → QW sT Q I L x (Sum.inl (some (aI (shZ z u v w (v - u + 1).toNat).2))) (shZ z u v w (v - u + 1).toNat).1 (svN n) (svZ n zs z)) : CT G sX9_shape [aR (some 0), aI u, aI v, aI w] (I, R, L, (SH sT), x, c, t) Q := by
  refine CT_of ok_X9_shape hG (Nat.le_of_ble_eq_true rfl) ?_
  show X G mX9_shape Q 0 _ [] (I, R, L, (SH sT), x, 3, 18)
  have hn1 := hZ.1.1.2.1.1
  have hn2 := hZ.1.1.2.1.2
  have hzo := hZ.1.2.1.1
  refine B_X9_shape_0 ?_
  try dsimp only
  refine ⟨⟨by omega, by omega, Nat.le_of_ble_eq_true rfl⟩, trivial, ?_⟩
  refine D_needCell hG (fun hb c2 t2 => ?_) (fun hok1 c2 t2 => ?_)
  · refine af_X rfl (fun c3 t3 => ?_)
    exact hT0 (fun y => hb y.1) I R _ _ (fun _ _ => rfl) rfl rfl hRK hC
  refine af_N (cc := 1) (tt := 6) rfl rfl rfl ?_
  try dsimp only
  refine B_X9_shape_4 ?_
  try dsimp only
  refine ⟨⟨by omega, by omega, Nat.le_of_ble_eq_true rfl⟩, trivial, ?_⟩
  refine D_needCell hG (fun hb c2 t2 => ?_) (fun hok2 c2 t2 => ?_)
  · refine af_X rfl (fun c3 t3 => ?_)
    exact hT0 (fun y => hb y.2) I R _ _ (fun _ _ => rfl) rfl rfl hRK hC
  refine af_N (cc := 1) (tt := 6) rfl rfl rfl ?_
  try dsimp only
  refine B_X9_shape_8 ?_
  try dsimp only
  have tm1 : u.tmod 12 = u % 12 := Int.tmod_eq_emod_of_nonneg (by omega)
  have tm2 : v.tmod 12 = v % 12 := Int.tmod_eq_emod_of_nonneg (by omega)
  have td1 : u.tdiv 12 = u / 12 := Int.tdiv_eq_ediv_of_nonneg (by omega)
  have td2 : v.tdiv 12 = v / 12 := Int.tdiv_eq_ediv_of_nonneg (by omega)
  refine ⟨⟨by decide, by (refine ⟨?_, ?_⟩ <;> omega)⟩, ?_⟩
  refine ⟨⟨by decide, by (refine ⟨?_, ?_⟩ <;> omega)⟩, ?_⟩
  refine ⟨fun c16_2 => ?_, fun c16_2 => ?_⟩
  · refine B_X9_shape_30 ?_
    try dsimp only
    refine ⟨⟨by omega, by omega, Nat.le_of_ble_eq_true rfl⟩, ?_⟩
    exact hT1 (by omega) I R _ _ (fun _ _ => rfl) rfl rfl hRK hC
  · refine ⟨⟨by decide, by (refine ⟨?_, ?_⟩ <;> omega)⟩, ?_⟩
    refine ⟨⟨by decide, by (refine ⟨?_, ?_⟩ <;> omega)⟩, ?_⟩
    refine ⟨fun c27_2 => ?_, fun c27_2 => ?_⟩
    · refine B_X9_shape_40 ?_
      try dsimp only
      refine ⟨fun c41_3 => ?_, fun c41_3 => ?_⟩
      · refine B_X9_shape_50 ?_
        try dsimp only
        refine ⟨⟨by omega, by omega, Nat.le_of_ble_eq_true rfl⟩, ?_⟩
        exact hT1 (by omega) I R _ _ (fun _ _ => rfl) rfl rfl hRK hC
      · refine ⟨fun c47_3 => ?_, fun c47_3 => ?_⟩
        · refine B_X9_shape_60 ?_
          try dsimp only
          refine ⟨so0, _, (by first | exact hRK2.x.2.2.1 | exact hRK.x.2.2.1), ?_⟩
          refine ⟨so0, _, (by first | exact hRK2.x.1 | exact hRK.x.1), ?_⟩
          refine ⟨⟨Nat.zero_le _, Nat.zero_le _, Nat.le_of_ble_eq_true rfl⟩, sh99, ?_⟩
          refine D_saveCS hG hRK hC hZ (fun J1 R1 j1 hRK2 hC2 => ?_)
          refine af_N0 rfl rfl rfl ?_
          try dsimp only
          refine B_X9_shape_71 ?_
          try dsimp only
          refine ⟨so0, _, (by first | exact hRK2.x.1 | exact hRK.x.1), ?_⟩
          refine ⟨sw0 w1, _, (by first | exact (hRK2.w w1).te | exact (hRK.w w1).te), ?_⟩
          refine ⟨⟨Nat.zero_le _, Nat.zero_le _, Nat.le_of_ble_eq_true rfl⟩, sw1 w1, ?_⟩
          refine D_level hG w1 (hRK2.w w1) hC2.1 hn2 (by omega) (by omega) (fun K k1 k2 => ?_)
          refine af_I0 rfl rfl (by decide) ?_
          try dsimp only
          refine B_X9_shape_84 ?_
          try dsimp only
          refine hQ (by omega) K R1 _ _ (fun a ha => ?_) ?_ ?_ hRK2 (CS_war hC2 hzo (fun c hc => k1 c (by omega)) k2 (fun i h1 h2 => shZ_98 z u v w (by omega) _ (by omega) (by omega)))
          · rw [k1 a (by omega), j1 a (by omega)]
          · rw [k1 346 (by decide), j1 346 (by omega)]
          · rw [k1 347 (by decide), j1 347 (by omega)]
        · refine B_X9_shape_50 ?_
          try dsimp only
          refine ⟨⟨by omega, by omega, Nat.le_of_ble_eq_true rfl⟩, ?_⟩
          exact hT1 (by omega) I R _ _ (fun _ _ => rfl) rfl rfl hRK hC
    · refine B_X9_shape_30 ?_
      try dsimp only
      refine ⟨⟨by omega, by omega, Nat.le_of_ble_eq_true rfl⟩, ?_⟩
      exact hT1 (by omega) I R _ _ (fun _ _ => rfl) rfl rfl hRK hC
theorem D_moveGeneral {G : amG} {I : Nat → Nat → Int} {R : Nat → Nat → Option Nat} {L : Nat → Nat → Int64} {x c t : Nat} {Q : amR → amH → Prop} (hG : amG0 G) (hRK : RK R) {z : Row} {n : Int} {zs : Nat → Row} (hC : CS I R z n zs) (hZ : ZF z) {u v : Int} (hT0 : ¬ ((0 ≤ u ∧ u ≤ 1) ∧ 0 ≤ v ∧ v ≤ 95) → QW sT Q I L x (Sum.inr 0) z n zs) (hQ : ((0 ≤ u ∧ u ≤ 1) ∧ 0 ≤ v ∧ v ≤ 95) → QW sT Q I L x (Sum.inl (some (aI (z (96 + u).toNat)))) (uz z (96 + u).toNat v) (svN n) (svZ n zs z)) : CT G sX9_moveGeneral [aR (some 0), aI u, aI v] (I, R, L, (SH sT), x, c, t) Q := by
  refine CT_of ok_X9_moveGeneral hG (Nat.le_of_ble_eq_true rfl) ?_
  show X G mX9_moveGeneral Q 0 _ [] (I, R, L, (SH sT), x, 2, 12)
  have hn1 := hZ.1.1.2.1.1
  have hn2 := hZ.1.1.2.1.2
  have hzo := hZ.1.2.1.1
  refine B_X9_moveGeneral_0 ?_
  try dsimp only
  refine ⟨⟨by omega, by omega, Nat.le_of_ble_eq_true rfl⟩, trivial, ?_⟩
  refine D_needSide hG (fun hb c2 t2 => ?_) (fun hok1 c2 t2 => ?_)
  · refine af_X rfl (fun c3 t3 => ?_)
    exact hT0 (fun y => hb y.1) I R _ _ (fun _ _ => rfl) rfl rfl hRK hC
  refine af_N (cc := 1) (tt := 6) rfl rfl rfl ?_
  try dsimp only
  refine B_X9_moveGeneral_4 ?_
  try dsimp only
  refine ⟨⟨by omega, by omega, Nat.le_of_ble_eq_true rfl⟩, trivial, ?_⟩
  refine D_needCell hG (fun hb c2 t2 => ?_) (fun hok2 c2 t2 => ?_)
  · refine af_X rfl (fun c3 t3 => ?_)
    exact hT0 (fun y => hb y.2) I R _ _ (fun _ _ => rfl) rfl rfl hRK hC
  refine af_N (cc := 1) (tt := 6) rfl rfl rfl ?_
  try dsimp only
  refine B_X9_moveGeneral_8 ?_
  try dsimp only
  refine ⟨so0, _, (by first | exact hRK2.x.2.2.1 | exact hRK.x.2.2.1), ?_⟩
  refine ⟨so0, _, (by first | exact hRK2.x.1 | exact hRK.x.1), ?_⟩
  refine ⟨⟨Nat.zero_le _, Nat.zero_le _, Nat.le_of_ble_eq_true rfl⟩, sh99, ?_⟩
  refine D_saveCS hG hRK hC hZ (fun J1 R1 j1 hRK2 hC2 => ?_)
  refine af_N0 rfl rfl rfl ?_
  try dsimp only
  refine B_X9_moveGeneral_19 ?_
  try dsimp only
  refine ⟨so0, _, (by first | exact hRK2.x.1 | exact hRK.x.1), ?_⟩
  refine ⟨sw0 w1, _, (by first | exact (hRK2.w w1).ge | exact (hRK.w w1).ge), ?_⟩
  refine ⟨_, sw3 w1, ⟨by omega, by omega⟩, ?_⟩
  refine ⟨so0, _, (by first | exact hRK2.x.1 | exact hRK.x.1), ?_⟩
  refine ⟨sw0 w1, _, (by first | exact (hRK2.w w1).ge | exact (hRK.w w1).ge), ?_⟩
  refine ⟨_, sw3 w1, ⟨by omega, by omega⟩, ?_⟩
  have eg : J1 (1 + 3) u.toNat = z (96 + u).toNat := wGs hC2.1 (by omega)
  rw [eg]
  refine hQ (by omega) _ R1 _ _ (fun a ha => ?_) ?_ ?_ hRK2 (CS_war hC2 hzo (fun c hc => u2_off _ _ _ (by omega)) (WV_ge hC2.1 hn2 v (by omega)) (fun i h1 h2 => uz_ne _ _ (by omega)))
  · rw [u2_off _ _ _ (by omega), j1 a (by omega)]
  · rw [u2_off _ _ _ (by decide), j1 346 (by omega)]
  · rw [u2_off _ _ _ (by decide), j1 347 (by omega)]
theorem D_addTroop {G : amG} {I : Nat → Nat → Int} {R : Nat → Nat → Option Nat} {L : Nat → Nat → Int64} {x c t : Nat} {Q : amR → amH → Prop} (hG : amG0 G) (hRK : RK R) {z : Row} {n : Int} {zs : Nat → Row} (hC : CS I R z n zs) (hZ : ZF z) {u v w : Int} (hT0 : ¬ ((0 ≤ u ∧ u ≤ 1) ∧ 0 ≤ v ∧ v ≤ 95) → QW sT Q I L x (Sum.inr 0) z n zs) (hT1 : ((0 ≤ u ∧ u ≤ 1) ∧ 0 ≤ v ∧ v ≤ 95) ∧ ¬ (1 ≤ w ∧ w ≤ 20) → QW sT Q I L x (Sum.inr 1) z n zs) (hT2 : ((0 ≤ u ∧ u ≤ 1) ∧ 0 ≤ v ∧ v ≤ 95) ∧ (1 ≤ w ∧ w ≤ 20) ∧ (z 98 = 12 ∨ tAt z v ≠ -1) → QW sT Q I L x (Sum.inr 2) z n zs) (hQ : ((0 ≤ u ∧ u ≤ 1) ∧ 0 ≤ v ∧ v ≤ 95) ∧ (1 ≤ w ∧ w ≤ 20) ∧ ¬ (z 98 = 12 ∨ tAt z v ≠ -1) → QW sT Q I L x (Sum.inl (some (aI (z 98)))) (adZ z (z 98).toNat u v w) (svN n) (svZ n zs z)) : CT G sX9_addTroop [aR (some 0), aI u, aI v, aI w] (I, R, L, (SH sT), x, c, t) Q := by
  refine CT_of ok_X9_addTroop hG (Nat.le_of_ble_eq_true rfl) ?_
  show X G mX9_addTroop Q 0 _ [] (I, R, L, (SH sT), x, 3, 18)
  have hn1 := hZ.1.1.2.1.1
  have hn2 := hZ.1.1.2.1.2
  have hzo := hZ.1.2.1.1
  refine B_X9_addTroop_0 ?_
  try dsimp only
  try simp (disch := omega) only [wN hC.1, wO hC.1, wTu hC.1, wGi hC.1, wMi hC.1, wL0 hC.1, wL1 hC.1, wG0 hC.1, wG1 hC.1, wT hC.1, wH hC.1, Nat.reduceAdd, Int.reduceToNat]
  refine ⟨⟨by omega, by omega, Nat.le_of_ble_eq_true rfl⟩, trivial, ?_⟩
  refine D_needSide hG (fun hb c2 t2 => ?_) (fun hok1 c2 t2 => ?_)
  · refine af_X rfl (fun c3 t3 => ?_)
    exact hT0 (fun y => hb y.1) I R _ _ (fun _ _ => rfl) rfl rfl hRK hC
  refine af_N (cc := 1) (tt := 6) rfl rfl rfl ?_
  try dsimp only
  try simp (disch := omega) only [wN hC.1, wO hC.1, wTu hC.1, wGi hC.1, wMi hC.1, wL0 hC.1, wL1 hC.1, wG0 hC.1, wG1 hC.1, wT hC.1, wH hC.1, Nat.reduceAdd, Int.reduceToNat]
  refine B_X9_addTroop_4 ?_
  try dsimp only
  try simp (disch := omega) only [wN hC.1, wO hC.1, wTu hC.1, wGi hC.1, wMi hC.1, wL0 hC.1, wL1 hC.1, wG0 hC.1, wG1 hC.1, wT hC.1, wH hC.1, Nat.reduceAdd, Int.reduceToNat]
  refine ⟨⟨by omega, by omega, Nat.le_of_ble_eq_true rfl⟩, trivial, ?_⟩
  refine D_needCell hG (fun hb c2 t2 => ?_) (fun hok2 c2 t2 => ?_)
  · refine af_X rfl (fun c3 t3 => ?_)
    exact hT0 (fun y => hb y.2) I R _ _ (fun _ _ => rfl) rfl rfl hRK hC
  refine af_N (cc := 1) (tt := 6) rfl rfl rfl ?_
  try dsimp only
  try simp (disch := omega) only [wN hC.1, wO hC.1, wTu hC.1, wGi hC.1, wMi hC.1, wL0 hC.1, wL1 hC.1, wG0 hC.1, wG1 hC.1, wT hC.1, wH hC.1, Nat.reduceAdd, Int.reduceToNat]
  refine B_X9_addTroop_8 ?_
  try dsimp only
  try simp (disch := omega) only [wN hC.1, wO hC.1, wTu hC.1, wGi hC.1, wMi hC.1, wL0 hC.1, wL1 hC.1, wG0 hC.1, wG1 hC.1, wT hC.1, wH hC.1, Nat.reduceAdd, Int.reduceToNat]
  refine ⟨fun c10_2 => ?_, fun c10_2 => ?_⟩
  · refine B_X9_addTroop_19 ?_
    try dsimp only
    try simp (disch := omega) only [wN hC.1, wO hC.1, wTu hC.1, wGi hC.1, wMi hC.1, wL0 hC.1, wL1 hC.1, wG0 hC.1, wG1 hC.1, wT hC.1, wH hC.1, Nat.reduceAdd, Int.reduceToNat]
    refine ⟨⟨by omega, by omega, Nat.le_of_ble_eq_true rfl⟩, ?_⟩
    first
      | exact hT1 (by omega) I R _ _ (fun _ _ => rfl) rfl rfl hRK hC
      | exact hT2 ⟨by omega, by omega, Or.inl (by omega)⟩ I R _ _ (fun _ _ => rfl) rfl rfl hRK hC
      | exact hT2 ⟨by omega, by omega, Or.inr (by assumption)⟩ I R _ _ (fun _ _ => rfl) rfl rfl hRK hC
  · refine ⟨fun c16_2 => ?_, fun c16_2 => ?_⟩
    · refine B_X9_addTroop_29 ?_
      try dsimp only
      try simp (disch := omega) only [wN hC.1, wO hC.1, wTu hC.1, wGi hC.1, wMi hC.1, wL0 hC.1, wL1 hC.1, wG0 hC.1, wG1 hC.1, wT hC.1, wH hC.1, Nat.reduceAdd, Int.reduceToNat]
      refine ⟨so0, _, (by first | exact hRK2.x.1 | exact hRK.x.1), ?_⟩
      refine ⟨sw0 w1, ?_⟩
      try simp (disch := omega) only [wN hC.1, wO hC.1, wTu hC.1, wGi hC.1, wMi hC.1, wL0 hC.1, wL1 hC.1, wG0 hC.1, wG1 hC.1, wT hC.1, wH hC.1, Nat.reduceAdd, Int.reduceToNat]
      refine ⟨fun c38_3 => ?_, fun c38_3 => ?_⟩
      · refine B_X9_addTroop_53 ?_
        try dsimp only
        try simp (disch := omega) only [wN hC.1, wO hC.1, wTu hC.1, wGi hC.1, wMi hC.1, wL0 hC.1, wL1 hC.1, wG0 hC.1, wG1 hC.1, wT hC.1, wH hC.1, Nat.reduceAdd, Int.reduceToNat]
        refine ⟨⟨by omega, by omega, Nat.le_of_ble_eq_true rfl⟩, ?_⟩
        first
          | exact hT1 (by omega) I R _ _ (fun _ _ => rfl) rfl rfl hRK hC
          | exact hT2 ⟨by omega, by omega, Or.inl (by omega)⟩ I R _ _ (fun _ _ => rfl) rfl rfl hRK hC
          | exact hT2 ⟨by omega, by omega, Or.inr (by assumption)⟩ I R _ _ (fun _ _ => rfl) rfl rfl hRK hC
      · refine ⟨so0, _, (by first | exact hRK2.x.1 | exact hRK.x.1), ?_⟩
        refine ⟨⟨Nat.zero_le _, Nat.zero_le _, Nat.le_of_ble_eq_true rfl⟩, sw0 w1, ?_⟩
        refine D_troopIn hG w1 (hRK.w w1) hC.1 hZ.1.1 ?_
        refine af_I0 rfl rfl (by decide) ?_
        try dsimp only
        try simp (disch := omega) only [wN hC.1, wO hC.1, wTu hC.1, wGi hC.1, wMi hC.1, wL0 hC.1, wL1 hC.1, wG0 hC.1, wG1 hC.1, wT hC.1, wH hC.1, Nat.reduceAdd, Int.reduceToNat]
        refine B_X9_addTroop_49 ?_
        try dsimp only
        try simp (disch := omega) only [wN hC.1, wO hC.1, wTu hC.1, wGi hC.1, wMi hC.1, wL0 hC.1, wL1 hC.1, wG0 hC.1, wG1 hC.1, wT hC.1, wH hC.1, Nat.reduceAdd, Int.reduceToNat]
        refine ⟨fun c50_4 => ?_, fun c50_4 => ?_⟩
        · refine B_X9_addTroop_63 ?_
          try dsimp only
          try simp (disch := omega) only [wN hC.1, wO hC.1, wTu hC.1, wGi hC.1, wMi hC.1, wL0 hC.1, wL1 hC.1, wG0 hC.1, wG1 hC.1, wT hC.1, wH hC.1, Nat.reduceAdd, Int.reduceToNat]
          refine ⟨so0, _, (by first | exact hRK2.x.2.2.1 | exact hRK.x.2.2.1), ?_⟩
          refine ⟨so0, _, (by first | exact hRK2.x.1 | exact hRK.x.1), ?_⟩
          refine ⟨⟨Nat.zero_le _, Nat.zero_le _, Nat.le_of_ble_eq_true rfl⟩, sh99, ?_⟩
          refine D_saveCS hG hRK hC hZ (fun J1 R1 j1 hRK2 hC2 => ?_)
          refine af_N0 rfl rfl rfl ?_
          try dsimp only
          try simp (disch := omega) only [wN hC.1, wO hC.1, wTu hC.1, wGi hC.1, wMi hC.1, wL0 hC.1, wL1 hC.1, wG0 hC.1, wG1 hC.1, wT hC.1, wH hC.1, Nat.reduceAdd, Int.reduceToNat]
          refine B_X9_addTroop_74 ?_
          try dsimp only
          try simp (disch := omega) only [wN hC.1, wO hC.1, wTu hC.1, wGi hC.1, wMi hC.1, wL0 hC.1, wL1 hC.1, wG0 hC.1, wG1 hC.1, wT hC.1, wH hC.1, Nat.reduceAdd, Int.reduceToNat]
          refine ⟨so0, _, (by first | exact hRK2.x.1 | exact hRK.x.1), ?_⟩
          refine ⟨⟨Nat.zero_le _, Nat.zero_le _, Nat.le_of_ble_eq_true rfl⟩, sw0 w1, ?_⟩
          refine D_recruit hG w1 (hRK2.w w1) hC2.1 (by omega) (fun K k1 k2 k3 => ?_)
          refine af_I0 rfl rfl (by decide) ?_
          try dsimp only
          try simp (disch := omega) only [wN hC.1, wO hC.1, wTu hC.1, wGi hC.1, wMi hC.1, wL0 hC.1, wL1 hC.1, wG0 hC.1, wG1 hC.1, wT hC.1, wH hC.1, Nat.reduceAdd, Int.reduceToNat]
          refine B_X9_addTroop_84 ?_
          try dsimp only
          try simp (disch := omega) only [wN hC.1, wO hC.1, wTu hC.1, wGi hC.1, wMi hC.1, wL0 hC.1, wL1 hC.1, wG0 hC.1, wG1 hC.1, wT hC.1, wH hC.1, Nat.reduceAdd, Int.reduceToNat]
          have hcs : CS K R1 (adZ z (z 98).toNat u v w) (svN n) (svZ n zs z) := by
            obtain ⟨h1, h2, h3, h4, h5, h6⟩ := hC2
            refine ⟨k2, WO_keep h2 hzo (fun n hn => oc_congr (fun k _ => k3 k)) (fun i u1 u2 => adZ_off (by omega) (by omega)), by rw [k1 99 (by omega)]; exact h3, h4, SV_off h5 h4.2 (fun c u1 u2 => k1 c (by omega)), fun t ht => by rw [k1 354 (by omega)]; exact h6 t ht⟩
          refine hQ ⟨by omega, by omega, fun y => ?_⟩ K R1 _ _ (fun a ha => ?_) ?_ ?_ hRK2 hcs
          · rcases y with y | y
            · omega
            · exact y (by assumption)
          · rw [k1 a (by omega), j1 a (by omega)]
          · rw [k1 346 (by omega), j1 346 (by omega)]
          · rw [k1 347 (by omega), j1 347 (by omega)]
        · refine B_X9_addTroop_53 ?_
          try dsimp only
          try simp (disch := omega) only [wN hC.1, wO hC.1, wTu hC.1, wGi hC.1, wMi hC.1, wL0 hC.1, wL1 hC.1, wG0 hC.1, wG1 hC.1, wT hC.1, wH hC.1, Nat.reduceAdd, Int.reduceToNat]
          refine ⟨⟨by omega, by omega, Nat.le_of_ble_eq_true rfl⟩, ?_⟩
          first
            | exact hT1 (by omega) I R _ _ (fun _ _ => rfl) rfl rfl hRK hC
            | exact hT2 ⟨by omega, by omega, Or.inl (by omega)⟩ I R _ _ (fun _ _ => rfl) rfl rfl hRK hC
            | exact hT2 ⟨by omega, by omega, Or.inr (by assumption)⟩ I R _ _ (fun _ _ => rfl) rfl rfl hRK hC
    · refine B_X9_addTroop_19 ?_
      try dsimp only
      try simp (disch := omega) only [wN hC.1, wO hC.1, wTu hC.1, wGi hC.1, wMi hC.1, wL0 hC.1, wL1 hC.1, wG0 hC.1, wG1 hC.1, wT hC.1, wH hC.1, Nat.reduceAdd, Int.reduceToNat]
      refine ⟨⟨by omega, by omega, Nat.le_of_ble_eq_true rfl⟩, ?_⟩
      first
        | exact hT1 (by omega) I R _ _ (fun _ _ => rfl) rfl rfl hRK hC
        | exact hT2 ⟨by omega, by omega, Or.inl (by omega)⟩ I R _ _ (fun _ _ => rfl) rfl rfl hRK hC
        | exact hT2 ⟨by omega, by omega, Or.inr (by assumption)⟩ I R _ _ (fun _ _ => rfl) rfl rfl hRK hC
theorem D_pass {G : amG} {I : Nat → Nat → Int} {R : Nat → Nat → Option Nat} {L : Nat → Nat → Int64} {x c t : Nat} {Q : amR → amH → Prop} (hG : amG0 G) (hRK : RK R) {z : Row} {n : Int} {zs : Nat → Row} (hC : CS I R z n zs) (hZ : ZF z) {u : Int} (hT1 : ¬ (1 ≤ u ∧ u ≤ 50) → QW sT Q I L x (Sum.inr 1) z n zs) (hT2 : (1 ≤ u ∧ u ≤ 50) ∧ 1000 < z 316 + u → QW sT Q I L x (Sum.inr 2) z n zs) (hQ : (1 ≤ u ∧ u ≤ 50) ∧ z 316 + u ≤ 1000 → QW sT Q I L x (Sum.inl (some (aI (passN z u.toNat 319 + passN z u.toNat 320 - (z 319 + z 320))))) (passN z u.toNat) (svN n) (svZ n zs z)) : CT G sX9_pass [aR (some 0), aI u] (I, R, L, (SH sT), x, c, t) Q := by
  refine CT_of ok_X9_pass hG (Nat.le_of_ble_eq_true rfl) ?_
  show X G mX9_pass Q 0 _ [] (I, R, L, (SH sT), x, 2, 12)
  have hn1 := hZ.1.1.2.1.1
  have hn2 := hZ.1.1.2.1.2
  have hzo := hZ.1.2.1.1
  have h0C := hZ.1.2.2
  unfold wfC at h0C
  have hzm := hZ.2.1
  refine B_X9_pass_0 ?_
  try dsimp only
  try simp (disch := omega) only [wN hC.1, wO hC.1, wTu hC.1, wGi hC.1, wMi hC.1, wL0 hC.1, wL1 hC.1, wG0 hC.1, wG1 hC.1, wT hC.1, wH hC.1, Nat.reduceAdd, Int.reduceToNat]
  refine ⟨⟨by omega, by omega, Nat.le_of_ble_eq_true rfl⟩, trivial, ?_⟩
  refine D_needTurns hG (fun hb c2 t2 => ?_) (fun hok1 c2 t2 => ?_)
  · refine af_X rfl (fun c3 t3 => ?_)
    exact hT1 hb I R _ _ (fun _ _ => rfl) rfl rfl hRK hC
  refine af_N (cc := 1) (tt := 6) rfl rfl rfl ?_
  try dsimp only
  try simp (disch := omega) only [wN hC.1, wO hC.1, wTu hC.1, wGi hC.1, wMi hC.1, wL0 hC.1, wL1 hC.1, wG0 hC.1, wG1 hC.1, wT hC.1, wH hC.1, Nat.reduceAdd, Int.reduceToNat]
  refine B_X9_pass_4 ?_
  try dsimp only
  try simp (disch := omega) only [wN hC.1, wO hC.1, wTu hC.1, wGi hC.1, wMi hC.1, wL0 hC.1, wL1 hC.1, wG0 hC.1, wG1 hC.1, wT hC.1, wH hC.1, Nat.reduceAdd, Int.reduceToNat]
  refine ⟨so0, _, (by first | exact hRK2.x.1 | exact hRK.x.1), ?_⟩
  refine ⟨sw0 w1, ?_⟩
  try simp (disch := omega) only [wN hC.1, wO hC.1, wTu hC.1, wGi hC.1, wMi hC.1, wL0 hC.1, wL1 hC.1, wG0 hC.1, wG1 hC.1, wT hC.1, wH hC.1, Nat.reduceAdd, Int.reduceToNat]
  refine ⟨by (refine ⟨?_, ?_⟩ <;> omega), ?_⟩
  refine ⟨fun c16_1 => ?_, fun c16_1 => ?_⟩
  · refine B_X9_pass_29 ?_
    try dsimp only
    try simp (disch := omega) only [wN hC.1, wO hC.1, wTu hC.1, wGi hC.1, wMi hC.1, wL0 hC.1, wL1 hC.1, wG0 hC.1, wG1 hC.1, wT hC.1, wH hC.1, Nat.reduceAdd, Int.reduceToNat]
    refine ⟨so0, _, (by first | exact hRK2.x.2.2.1 | exact hRK.x.2.2.1), ?_⟩
    refine ⟨so0, _, (by first | exact hRK2.x.1 | exact hRK.x.1), ?_⟩
    refine ⟨⟨Nat.zero_le _, Nat.zero_le _, Nat.le_of_ble_eq_true rfl⟩, sh99, ?_⟩
    refine D_saveCS hG hRK hC hZ (fun J1 R1 j1 hRK2 hC2 => ?_)
    refine af_N0 rfl rfl rfl ?_
    try dsimp only
    try simp (disch := omega) only [wN hC.1, wO hC.1, wTu hC.1, wGi hC.1, wMi hC.1, wL0 hC.1, wL1 hC.1, wG0 hC.1, wG1 hC.1, wT hC.1, wH hC.1, Nat.reduceAdd, Int.reduceToNat]
    refine B_X9_pass_40 ?_
    try dsimp only
    try simp (disch := omega) only [wN hC.1, wO hC.1, wTu hC.1, wGi hC.1, wMi hC.1, wL0 hC.1, wL1 hC.1, wG0 hC.1, wG1 hC.1, wT hC.1, wH hC.1, Nat.reduceAdd, Int.reduceToNat]
    refine ⟨so0, _, (by first | exact hRK2.x.1 | exact hRK.x.1), ?_⟩
    refine ⟨⟨Nat.zero_le _, Nat.zero_le _, Nat.le_of_ble_eq_true rfl⟩, sw0 w1, ?_⟩
    refine D_lostByBoth hG w1 (hRK2.w w1) hC2.1 hZ.1.1 hZ.1.2.2 ?_
    refine af_I0 rfl rfl (by decide) ?_
    try dsimp only
    try simp (disch := omega) only [wN hC.1, wO hC.1, wTu hC.1, wGi hC.1, wMi hC.1, wL0 hC.1, wL1 hC.1, wG0 hC.1, wG1 hC.1, wT hC.1, wH hC.1, Nat.reduceAdd, Int.reduceToNat]
    refine B_X9_pass_47 ?_
    try dsimp only
    try simp (disch := omega) only [wN hC.1, wO hC.1, wTu hC.1, wGi hC.1, wMi hC.1, wL0 hC.1, wL1 hC.1, wG0 hC.1, wG1 hC.1, wT hC.1, wH hC.1, Nat.reduceAdd, Int.reduceToNat]
    refine ⟨so0, _, (by first | exact hRK2.x.2.2.2.2.2 | exact hRK.x.2.2.2.2.2), ?_⟩
    refine ⟨so0, _, (by first | exact hRK2.x.1 | exact hRK.x.1), ?_⟩
    refine ⟨⟨Nat.zero_le _, Nat.zero_le _, Nat.le_of_ble_eq_true rfl⟩, sa0, ?_⟩
    refine D_play hG w1 (hRK2.w w1) hC2.1 hC2.2.1 hZ.1 (by omega) hRK2.a hRK2.p2 (fun K k1 k2 k3 => ?_)
    have hpn := passN_inv hZ.1 u.toNat (by omega)
    have hpc := hpn.1.2.2
    unfold wfC at hpc
    refine af_N0 rfl rfl rfl ?_
    try dsimp only
    try simp (disch := omega) only [wN hC.1, wO hC.1, wTu hC.1, wGi hC.1, wMi hC.1, wL0 hC.1, wL1 hC.1, wG0 hC.1, wG1 hC.1, wT hC.1, wH hC.1, Nat.reduceAdd, Int.reduceToNat]
    refine B_X9_pass_60 ?_
    try dsimp only
    try simp (disch := omega) only [wN hC.1, wO hC.1, wTu hC.1, wGi hC.1, wMi hC.1, wL0 hC.1, wL1 hC.1, wG0 hC.1, wG1 hC.1, wT hC.1, wH hC.1, Nat.reduceAdd, Int.reduceToNat]
    refine ⟨so0, _, (by first | exact hRK2.x.1 | exact hRK.x.1), ?_⟩
    refine ⟨⟨Nat.zero_le _, Nat.zero_le _, Nat.le_of_ble_eq_true rfl⟩, sw0 w1, ?_⟩
    refine D_lostByBoth hG w1 (hRK2.w w1) k2 hpn.1.1 hpn.1.2.2 ?_
    refine af_I0 rfl rfl (by decide) ?_
    try dsimp only
    try simp (disch := omega) only [wN hC.1, wO hC.1, wTu hC.1, wGi hC.1, wMi hC.1, wL0 hC.1, wL1 hC.1, wG0 hC.1, wG1 hC.1, wT hC.1, wH hC.1, Nat.reduceAdd, Int.reduceToNat]
    refine B_X9_pass_67 ?_
    try dsimp only
    try simp (disch := omega) only [wN hC.1, wO hC.1, wTu hC.1, wGi hC.1, wMi hC.1, wL0 hC.1, wL1 hC.1, wG0 hC.1, wG1 hC.1, wT hC.1, wH hC.1, Nat.reduceAdd, Int.reduceToNat]
    refine ⟨by (refine ⟨?_, ?_⟩ <;> omega), ?_⟩
    have hcs : CS K R1 (passN z u.toNat) (svN n) (svZ n zs z) := by
      obtain ⟨h1, h2, h3, h4, h5, h6⟩ := hC2
      exact ⟨k2, k3, by rw [k1 99 (by omega) (by decide) (by decide) (by decide)]; exact h3, h4, SV_off h5 h4.2 (fun c u1 u2 => k1 c (by omega) (by omega) (by omega) (by omega)), fun t ht => by rw [k1 354 (by omega) (by decide) (by decide) (by decide)]; exact h6 t ht⟩
    refine hQ (by omega) K R1 _ _ (fun a ha => ?_) ?_ ?_ hRK2 hcs
    · rw [k1 a (by omega) (by omega) (by omega) (by omega), j1 a (by omega)]
    · rw [k1 346 (by omega) (by decide) (by decide) (by decide), j1 346 (by omega)]
    · rw [k1 347 (by omega) (by decide) (by decide) (by decide), j1 347 (by omega)]
  · refine ⟨⟨by omega, by omega, Nat.le_of_ble_eq_true rfl⟩, ?_⟩
    exact hT2 (by omega) I R _ _ (fun _ _ => rfl) rfl rfl hRK hC
