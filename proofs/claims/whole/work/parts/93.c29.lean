theorem L_mixTroopsB {G : amG} {I : Nat → Nat → Int} {R : Nat → Nat → Option Nat} {L : Nat → Nat → Int64} {x : Nat} {Q : amR → amH → Prop} (hG : amG0 G) (hRK : RK R) {z : Row} {n : Int} {zs : Nat → Row} (hC : CS I R z n zs) (hZ : ZF z) {s0 u : Int64} {k : Int} (hk : 0 ≤ k ∧ k < z 98) (hK : X G mX9_mixTroops Q 50 [some (aR (some 0)), some (aL s0), none, some (aL (mxN (F3 z k.toNat) u 9)), none, some (aI k), some (aI 9)] [] (I, R, L, SH, x, 0, 0)) :
    ∀ (n_ : Nat) (j : Int), (0 ≤ j ∧ j ≤ 9 ∧ 9 - j < n_) → X G mX9_mixTroops Q 20 [some (aR (some 0)), some (aL s0), none, some (aL (mxN (F3 z k.toNat) u j.toNat)), none, some (aI k), some (aI j)] [] (I, R, L, SH, x, 0, 0) := by
  intro n_
  induction n_ with
  | zero =>
    intros
    exfalso; omega
  | succ n_ ih =>
    intro j h1
    have hn1 := hZ.1.1.2.1.1
    have hn2 := hZ.1.1.2.1.2
    have hzo := hZ.1.2.1.1
    have h0C := hZ.1.2.2.1
    have hzm := hZ.2.1
    have hs := mxN_s (F3 z k.toNat) u j.toNat
    refine B_X9_mixTroops_20 ?_
    try dsimp only
    refine ⟨fun c24_0 => ?_, fun c24_0 => ?_⟩
    · have e : j = 9 := by omega
      rw [e]
      exact hK
    · refine ⟨so0, _, (by first | exact hRK2.x.1 | exact hRK.x.1), ?_⟩
      refine ⟨⟨Nat.zero_le _, Nat.zero_le _, Nat.le_of_ble_eq_true rfl⟩, sw0 w1, ?_⟩
      refine D_troopFigure hG w1 (hRK.w w1) hC.1 hZ.1.1 hC.2.1 hzo hk (w := j) (by omega) ?_
      refine af_I0 rfl rfl (by decide) ?_
      try dsimp only
      refine B_X9_mixTroops_39 ?_
      try dsimp only
      refine ⟨⟨Nat.zero_le _, Nat.zero_le _, Nat.le_of_ble_eq_true rfl⟩, trivial, ?_⟩
      refine D_mix hG ?_
      refine af_I0 rfl rfl (by decide) ?_
      try dsimp only
      refine B_X9_mixTroops_43 ?_
      try dsimp only
      refine ⟨by (refine ⟨?_, ?_⟩ <;> omega), ?_⟩
      have e := ih (j + 1) (by omega)
      rw [show (j + 1).toNat = j.toNat + 1 by omega, hs] at e
      have ef : F3 z k.toNat j.toNat = trN z k.toNat j := by
        show trN z k.toNat ((j.toNat : Nat) : Int) = _
        rw [show ((j.toNat : Nat) : Int) = j by omega]
      rw [ef] at e
      exact e
theorem L_mixTroops {G : amG} {I : Nat → Nat → Int} {R : Nat → Nat → Option Nat} {L : Nat → Nat → Int64} {x : Nat} {Q : amR → amH → Prop} (hG : amG0 G) (hRK : RK R) {z : Row} {n : Int} {zs : Nat → Row} (hC : CS I R z n zs) (hZ : ZF z) {s0 u : Int64} (hQ : ∀ J : Nat → Nat → Int, (∀ a : Nat, a ≠ 352 → a ≠ 353 → J a = I a) → CS J R z n zs → Q (Sum.inl (some (aL (dgT z u (z 98).toNat)))) (J, R, L, SH, x, 0, 0)) :
    ∀ (n_ : Nat) (k : Int) (J : Nat → Nat → Int) (l6 : Option amV), (0 ≤ k ∧ k ≤ z 98 ∧ z 98 - k < n_) → (∀ a : Nat, a ≠ 352 → a ≠ 353 → J a = I a) → CS J R z n zs → X G mX9_mixTroops Q 5 [some (aR (some 0)), some (aL s0), none, some (aL (dgT z u k.toNat)), none, some (aI k), l6] [] (J, R, L, SH, x, 0, 0) := by
  intro n_
  induction n_ with
  | zero =>
    intros
    exfalso; omega
  | succ n_ ih =>
    intro k J l6 h1 hF hCJ
    have hn1 := hZ.1.1.2.1.1
    have hn2 := hZ.1.1.2.1.2
    have hzo := hZ.1.2.1.1
    have h0C := hZ.1.2.2.1
    have hzm := hZ.2.1
    have hs := dgT_s z u k.toNat
    refine B_X9_mixTroops_5 ?_
    try dsimp only
    try simp (disch := omega) only [wN hCJ.1]
    refine ⟨so0, _, (by first | exact hRK2.x.1 | exact hRK.x.1), ?_⟩
    refine ⟨sw0 w1, ?_⟩
    try simp (disch := omega) only [wN hCJ.1]
    refine ⟨fun c14_0 => ?_, fun c14_0 => ?_⟩
    · refine B_X9_mixTroops_75 ?_
      try dsimp only
      try simp (disch := omega) only [wN hCJ.1]
      refine ⟨rfl, ?_⟩
      rw [show k = z 98 by omega]
      exact hQ J hF hCJ
    · refine L_mixTroopsB hG hRK hCJ hZ (k := k) (by omega) ?_ 10 0 (by omega)
      refine B_X9_mixTroops_50 ?_
      try dsimp only
      refine ⟨so0, _, (by first | exact hRK2.x.2.2.2.2.1 | exact hRK.x.2.2.2.2.1), ?_⟩
      refine ⟨so0, _, (by first | exact hRK2.x.1 | exact hRK.x.1), ?_⟩
      refine ⟨⟨Nat.zero_le _, Nat.zero_le _, Nat.le_of_ble_eq_true rfl⟩, sc0, ?_⟩
      rw [← p3_self J 351]
      refine D_refusal hG w1 (hRK.w w1) hRK.c hRK.p1 hCJ.2.2.2.2.2 hCJ.1 hZ.1.1 (k := k) (by omega) hzo (fun f2 q2 => ?_)
      refine af_I0 rfl rfl (by decide) ?_
      try dsimp only
      refine B_X9_mixTroops_64 ?_
      try dsimp only
      refine ⟨⟨Nat.zero_le _, Nat.zero_le _, Nat.le_of_ble_eq_true rfl⟩, trivial, ?_⟩
      refine D_mix hG ?_
      refine af_I0 rfl rfl (by decide) ?_
      try dsimp only
      refine B_X9_mixTroops_68 ?_
      try dsimp only
      refine ⟨by (refine ⟨?_, ?_⟩ <;> omega), ?_⟩
      have e := ih (k + 1) (p3 J 351 f2 q2) (some (aI 9)) (by omega) (fun a a1 a2 => by rw [p3_o _ _ _ _ ⟨a1, a2⟩]; exact hF a a1 a2) (CS_off hCJ hZ (fun a ha => p3_o _ _ _ _ (by omega)))
      rw [show (k + 1).toNat = k.toNat + 1 by omega, hs] at e
      exact e
theorem D_mixTroops {G : amG} {I : Nat → Nat → Int} {R : Nat → Nat → Option Nat} {L : Nat → Nat → Int64} {x c t : Nat} {Q : amR → amH → Prop} (hG : amG0 G) (hRK : RK R) {z : Row} {n : Int} {zs : Nat → Row} (hC : CS I R z n zs) (hZ : ZF z) {u : Int64} (hQ : ∀ J : Nat → Nat → Int, (∀ a : Nat, a ≠ 352 → a ≠ 353 → J a = I a) → CS J R z n zs → Q (Sum.inl (some (aL (dgT z u (z 98).toNat)))) (J, R, L, SH, x, 0, 0)) : CT G sX9_mixTroops [aR (some 0), aL u] (I, R, L, SH, x, c, t) Q := by
  refine CT_of ok_X9_mixTroops hG (Nat.le_of_ble_eq_true rfl) ?_
  show X G mX9_mixTroops Q 0 _ [] (I, R, L, SH, x, 0, 0)
  have hn1 := hZ.1.1.2.1.1
  have hn2 := hZ.1.1.2.1.2
  have hzo := hZ.1.2.1.1
  have h0C := hZ.1.2.2.1
  have hzm := hZ.2.1
  refine B_X9_mixTroops_0 ?_
  try dsimp only
  exact L_mixTroops hG hRK hC hZ hQ 13 0 I none (by omega) (fun _ _ _ => rfl) hC
theorem L_mixAhead {G : amG} {I : Nat → Nat → Int} {R : Nat → Nat → Option Nat} {L : Nat → Nat → Int64} {x : Nat} {Q : amR → amH → Prop} (hG : amG0 G) (hRK : RK R) {z : Row} {n : Int} {zs : Nat → Row} (hC : CS I R z n zs) (hZ : ZF z) {s0 u : Int64} {y : Row} (hW50 : WV I 50 y) (hby : wfB y) (hQ : Q (Sum.inl (some (aL (mxN (fun w => cntZ y ((w : Int) + 6)) u 5)))) (I, R, L, SH, x, 0, 0)) :
    ∀ (n_ : Nat) (j : Int), (6 ≤ j ∧ j ≤ 11 ∧ 11 - j < n_) → X G mX9_mixAhead Q 56 [some (aR (some 0)), some (aL s0), none, some (aL (mxN (fun w => cntZ y ((w : Int) + 6)) u (j - 6).toNat)), none, some (aI j)] [] (I, R, L, SH, x, 0, 0) := by
  intro n_
  induction n_ with
  | zero =>
    intros
    exfalso; omega
  | succ n_ ih =>
    intro j h1
    have hs := mxN_s (fun w => cntZ y ((w : Int) + 6)) u (j - 6).toNat
    refine B_X9_mixAhead_56 ?_
    try dsimp only
    refine ⟨fun c60_0 => ?_, fun c60_0 => ?_⟩
    · refine B_X9_mixAhead_84 ?_
      try dsimp only
      refine ⟨rfl, ?_⟩
      rw [show (j - 6).toNat = 5 by omega]
      exact hQ
    · refine ⟨so0, _, (by first | exact hRK2.x.2.1 | exact hRK.x.2.1), ?_⟩
      refine ⟨⟨Nat.zero_le _, Nat.zero_le _, Nat.le_of_ble_eq_true rfl⟩, (by first | exact sw0 w1 | exact sw0 w50), ?_⟩
      refine D_figure hG w50 (hRK.w w50) hW50 hby (w := j) (by omega) ?_
      refine af_I0 rfl rfl (by decide) ?_
      try dsimp only
      refine B_X9_mixAhead_73 ?_
      try dsimp only
      refine ⟨⟨Nat.zero_le _, Nat.zero_le _, Nat.le_of_ble_eq_true rfl⟩, trivial, ?_⟩
      refine D_mix hG ?_
      refine af_I0 rfl rfl (by decide) ?_
      try dsimp only
      refine B_X9_mixAhead_77 ?_
      try dsimp only
      refine ⟨by (refine ⟨?_, ?_⟩ <;> omega), ?_⟩
      have e := ih (j + 1) (by omega)
      rw [show (j + 1 - 6).toNat = (j - 6).toNat + 1 by omega, hs] at e
      rw [show (((j - 6).toNat : Nat) : Int) + 6 = j by omega] at e
      exact e
theorem D_mixAhead {G : amG} {I : Nat → Nat → Int} {R : Nat → Nat → Option Nat} {L : Nat → Nat → Int64} {x c t : Nat} {Q : amR → amH → Prop} (hG : amG0 G) (hRK : RK R) {z : Row} {n : Int} {zs : Nat → Row} (hC : CS I R z n zs) (hZ : ZF z) {u : Int64} (hQ : ∀ K : Nat → Nat → Int, (∀ a : Nat, a < 50 ∨ 99 ≤ a → a ≠ 358 → a ≠ 359 → a ≠ 360 → K a = I a) → CS K R z n zs → Q (Sum.inl (some (aL (dgP z u)))) (K, R, L, SH, x + 1, 0, 0)) : CT G sX9_mixAhead [aR (some 0), aL u] (I, R, L, SH, x, c, t) Q := by
  refine CT_of ok_X9_mixAhead hG (Nat.le_of_ble_eq_true rfl) ?_
  show X G mX9_mixAhead Q 0 _ [] (I, R, L, SH, x, 0, 0)
  have hn1 := hZ.1.1.2.1.1
  have hn2 := hZ.1.1.2.1.2
  have hzo := hZ.1.2.1.1
  have h0C := hZ.1.2.2.1
  have hzm := hZ.2.1
  refine B_X9_mixAhead_0 ?_
  try dsimp only
  refine ⟨so0, _, (by first | exact hRK2.x.2.1 | exact hRK.x.2.1), ?_⟩
  refine ⟨so0, _, (by first | exact hRK2.x.1 | exact hRK.x.1), ?_⟩
  refine ⟨⟨Nat.zero_le _, Nat.zero_le _, Nat.le_of_ble_eq_true rfl⟩, (by first | exact sw0 w1 | exact sw0 w50), ?_⟩
  refine D_copyWar hG w50 (hRK.w w50) w1 (hRK.w w1) (by decide) hC.1 hZ.1.1.2.1 hzo (fun J j1 j2 j3 => ?_)
  have hO50 : WO J 50 z := by
    unfold WO
    rw [← hC.2.1]
    unfold oc
    exact List.map_congr_left (fun i hi => j3 i (by have := List.mem_range.mp hi; omega))
  refine af_N0 rfl rfl rfl ?_
  try dsimp only
  refine B_X9_mixAhead_11 ?_
  try dsimp only
  refine ⟨so0, _, (by first | exact hRK2.x.2.2.2.2.2 | exact hRK.x.2.2.2.2.2), ?_⟩
  refine ⟨so0, _, (by first | exact hRK2.x.2.1 | exact hRK.x.2.1), ?_⟩
  refine ⟨⟨Nat.zero_le _, Nat.zero_le _, Nat.le_of_ble_eq_true rfl⟩, sa0, ?_⟩
  refine D_play hG w50 (hRK.w w50) (u := 10) j2 hO50 hZ.1 (by omega) hRK.a hRK.p2 (fun K k1 k2 k3 => ?_)
  have k2 : WV K 50 (passN z 10) := k2
  have hpn := (passN_inv hZ.1 10 (by omega)).1.1
  have hCK : CS K R z n zs := CS_off hC hZ (fun a ha => by rw [k1 a (by omega) (by omega) (by omega) (by omega), j1 a (by omega)])
  refine af_N0 rfl rfl rfl ?_
  try dsimp only
  refine B_X9_mixAhead_24 ?_
  try dsimp only
  refine ⟨so0, _, (by first | exact hRK2.x.2.1 | exact hRK.x.2.1), ?_⟩
  refine ⟨⟨Nat.zero_le _, Nat.zero_le _, Nat.le_of_ble_eq_true rfl⟩, (by first | exact sw0 w1 | exact sw0 w50), ?_⟩
  refine D_figure hG w50 (hRK.w w50) k2 hpn (by decide) ?_
  refine af_I0 rfl rfl (by decide) ?_
  try dsimp only
  refine B_X9_mixAhead_33 ?_
  try dsimp only
  refine ⟨⟨Nat.zero_le _, Nat.zero_le _, Nat.le_of_ble_eq_true rfl⟩, trivial, ?_⟩
  refine D_mix hG ?_
  refine af_I0 rfl rfl (by decide) ?_
  try dsimp only
  refine B_X9_mixAhead_37 ?_
  try dsimp only
  refine ⟨so0, _, (by first | exact hRK2.x.2.1 | exact hRK.x.2.1), ?_⟩
  refine ⟨⟨Nat.zero_le _, Nat.zero_le _, Nat.le_of_ble_eq_true rfl⟩, (by first | exact sw0 w1 | exact sw0 w50), ?_⟩
  refine D_figure hG w50 (hRK.w w50) k2 hpn (by decide) ?_
  refine af_I0 rfl rfl (by decide) ?_
  try dsimp only
  refine B_X9_mixAhead_47 ?_
  try dsimp only
  refine ⟨⟨Nat.zero_le _, Nat.zero_le _, Nat.le_of_ble_eq_true rfl⟩, trivial, ?_⟩
  refine D_mix hG ?_
  refine af_I0 rfl rfl (by decide) ?_
  try dsimp only
  refine B_X9_mixAhead_51 ?_
  try dsimp only
  exact L_mixAhead hG hRK hCK hZ k2 hpn (hQ K (fun a a1 a2 a3 a4 => by rw [k1 a (by omega) a2 a3 a4, j1 a (by omega)]) hCK) 6 6 (by omega)
