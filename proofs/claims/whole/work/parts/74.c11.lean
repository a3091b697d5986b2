/-! ===== the class: a war is copied ===== -/
theorem wb_ne {b d : Nat} (hB : wb b) (hD : wb d) (h : b ≠ d) : b + 49 ≤ d ∨ d + 49 ≤ b := by
  rcases hB with e | e | e | e | e | e | e <;> rcases hD with e2 | e2 | e2 | e2 | e2 | e2 | e2 <;> omega
theorem L_cpA {G : amG} {I : Nat → Nat → Int} {R : Nat → Nat → Option Nat} {L : Nat → Nat → Int64} {x : Nat} {Q : amR → amH → Prop} (hG : amG0 G) {b d : Nat} (hB : wb b) (hRW : RW R b) (hD : wb d) (hRD : RW R d) (hne : b ≠ d) (hK : ∀ J : Nat → Nat → Int, (∀ c : Nat, c ≠ b + 3 → c ≠ b + 6 → J c = I c) → (∀ s : Nat, s < 2 → J (b + 3) s = I (d + 3) s ∧ J (b + 6) s = I (d + 6) s) → X G mX8_copyFrom Q 48 [some (aR (some b)), some (aR (some d)), some (aI 2)] [] (J, R, L, SH, x, 0, 0)) :
    ∀ (n : Nat) (j : Int) (J : Nat → Nat → Int), (0 ≤ j ∧ j ≤ 2 ∧ 2 - j < n) → (∀ c : Nat, c ≠ b + 3 → c ≠ b + 6 → J c = I c) → (∀ s : Nat, (s : Int) < j → J (b + 3) s = I (d + 3) s ∧ J (b + 6) s = I (d + 6) s) → X G mX8_copyFrom Q 13 [some (aR (some b)), some (aR (some d)), some (aI j)] [] (J, R, L, SH, x, 0, 0) := by
  intro n
  induction n with
  | zero =>
    intros
    exfalso; omega
  | succ n ih =>
    intro j J h1 hJ hs
    have hbd := wb_ne hB hD hne
    refine B_X8_copyFrom_13 ?_
    try dsimp only
    refine ⟨fun c15_0 => ?_, fun c15_0 => ?_⟩
    · have e : j = 2 := by omega
      rw [e] at hs ⊢
      exact hK J hJ (fun s h => hs s (by omega))
    · refine ⟨sw0 hB, _, hRW.ge, ?_⟩
      refine ⟨sw0 hD, _, hRD.ge, ?_⟩
      refine ⟨_, (by first | exact sw3 hB | exact sw3 hD), ⟨by omega, by omega⟩, ?_⟩
      refine ⟨_, (by first | exact sw3 hB | exact sw3 hD), ⟨by omega, by omega⟩, ?_⟩
      refine ⟨sw0 hB, _, hRW.lo, ?_⟩
      refine ⟨sw0 hD, _, hRD.lo, ?_⟩
      refine ⟨_, (by first | exact sw6 hB | exact sw6 hD), ⟨by omega, by omega⟩, ?_⟩
      refine ⟨_, (by first | exact sw6 hB | exact sw6 hD), ⟨by omega, by omega⟩, ?_⟩
      refine ⟨by (refine ⟨?_, ?_⟩ <;> omega), ?_⟩
      refine ih (j + 1) _ (by omega) (fun c h2 h3 => ?_) (fun s hs1 => ?_)
      · rw [u2_off _ _ _ h3, u2_off _ _ _ h2]
        exact hJ c h2 h3
      · by_cases e : s = j.toNat
        · rw [e]
          refine ⟨?_, ?_⟩
          · rw [u2_off _ _ _ (by omega), u2_same, hJ _ (by omega) (by omega)]
          · rw [u2_same, u2_off _ _ _ (by omega), hJ _ (by omega) (by omega)]
        · rw [u2_ne (x := b + 3) _ _ (by omega), u2_ne (x := b + 3) _ _ (by omega), u2_ne (x := b + 6) _ _ (by omega), u2_ne (x := b + 6) _ _ (by omega)]
          exact hs s (by omega)
theorem L_cpB {G : amG} {I : Nat → Nat → Int} {R : Nat → Nat → Option Nat} {L : Nat → Nat → Int64} {x : Nat} {Q : amR → amH → Prop} (hG : amG0 G) {b d : Nat} (hB : wb b) (hRW : RW R b) (hD : wb d) (hRD : RW R d) (hne : b ≠ d) {m : Int} (hm : 0 ≤ m ∧ m ≤ 12) (hI : I b 3 = m) (hK : ∀ J : Nat → Nat → Int, (∀ c : Nat, c < b + 7 ∨ b + 19 ≤ c → J c = I c) → (∀ k f : Nat, (k : Int) < m → f < 8 → J (b + 7 + k) f = I (d + 7 + k) f) → X G mX8_copyFrom Q 87 [some (aR (some b)), some (aR (some d)), some (aI m)] [] (J, R, L, SH, x, 0, 0)) :
    ∀ (n : Nat) (j : Int) (J : Nat → Nat → Int), (0 ≤ j ∧ j ≤ m ∧ m - j < n) → (∀ c : Nat, c < b + 7 ∨ b + 19 ≤ c → J c = I c) → (∀ k f : Nat, (k : Int) < j → f < 8 → J (b + 7 + k) f = I (d + 7 + k) f) → X G mX8_copyFrom Q 58 [some (aR (some b)), some (aR (some d)), some (aI j)] [] (J, R, L, SH, x, 0, 0) := by
  intro n
  induction n with
  | zero =>
    intros
    exfalso; omega
  | succ n ih =>
    intro j J h1 hJ hs
    have hbd := wb_ne hB hD hne
    have hJb : J b 3 = m := by rw [hJ b (by omega)]; exact hI
    refine B_X8_copyFrom_58 ?_
    try dsimp only
    try simp only [hJb]
    refine ⟨sw0 hB, ?_⟩
    try simp only [hJb]
    refine ⟨fun c63_0 => ?_, fun c63_0 => ?_⟩
    · have e : j = m := by omega
      rw [e] at hs ⊢
      exact hK J hJ hs
    · refine ⟨sw0 hB, _, hRW.tr, ?_⟩
      refine ⟨_, _, (by first | exact sw4 hB | exact sw4 hD), ⟨by decide, by decide⟩, ⟨by omega, by omega⟩, _, (by first | exact hRW.t (by omega) | exact hRD.t (by omega)), ?_⟩
      refine ⟨sw0 hD, _, hRD.tr, ?_⟩
      refine ⟨_, _, (by first | exact sw4 hB | exact sw4 hD), ⟨by decide, by decide⟩, ⟨by omega, by omega⟩, _, (by first | exact hRW.t (by omega) | exact hRD.t (by omega)), ?_⟩
      refine ⟨⟨Nat.zero_le _, Nat.zero_le _, Nat.le_of_ble_eq_true rfl⟩, (by first | exact swT hB (by omega) | exact swT hD (by omega)), ?_⟩
      refine D_copyTroop hG (swT hB (by omega)) (swT hD (by omega)) (by omega) (fun J2 j1 j2 => ?_)
      refine af_N0 rfl rfl rfl ?_
      try dsimp only
      try simp only [hJb]
      refine B_X8_copyFrom_81 ?_
      try dsimp only
      try simp only [hJb]
      refine ⟨by (refine ⟨?_, ?_⟩ <;> omega), ?_⟩
      refine ih (j + 1) _ (by omega) (fun c hc => ?_) (fun k f hk hf => ?_)
      · rw [j1 c (by omega)]
        exact hJ c hc
      · by_cases e : k = j.toNat
        · rw [e, j2 f hf, hJ _ (by omega)]
        · rw [j1 _ (by omega)]
          exact hs k f (by omega) hf
theorem L_cpC {G : amG} {I : Nat → Nat → Int} {R : Nat → Nat → Option Nat} {L : Nat → Nat → Int64} {x : Nat} {Q : amR → amH → Prop} (hG : amG0 G) {b d : Nat} (hB : wb b) (hRW : RW R b) (hD : wb d) (hRD : RW R d) (hne : b ≠ d) {m : Int} (hm : 0 ≤ m ∧ m ≤ 30) (hI : I b 5 = m) (hK : ∀ J : Nat → Nat → Int, (∀ c : Nat, c < b + 19 ∨ b + 49 ≤ c → J c = I c) → (∀ k : Nat, (k : Int) < m → odC J b k = odC I d k) → X G mX8_copyFrom Q 126 [some (aR (some b)), some (aR (some d)), some (aI m)] [] (J, R, L, SH, x, 0, 0)) :
    ∀ (n : Nat) (j : Int) (J : Nat → Nat → Int), (0 ≤ j ∧ j ≤ m ∧ m - j < n) → (∀ c : Nat, c < b + 19 ∨ b + 49 ≤ c → J c = I c) → (∀ k : Nat, (k : Int) < j → odC J b k = odC I d k) → X G mX8_copyFrom Q 97 [some (aR (some b)), some (aR (some d)), some (aI j)] [] (J, R, L, SH, x, 0, 0) := by
  intro n
  induction n with
  | zero =>
    intros
    exfalso; omega
  | succ n ih =>
    intro j J h1 hJ hs
    have hbd := wb_ne hB hD hne
    have hJb : J b 5 = m := by rw [hJ b (by omega)]; exact hI
    refine B_X8_copyFrom_97 ?_
    try dsimp only
    try simp only [hJb]
    refine ⟨sw0 hB, ?_⟩
    try simp only [hJb]
    refine ⟨fun c102_0 => ?_, fun c102_0 => ?_⟩
    · have e : j = m := by omega
      rw [e] at hs ⊢
      exact hK J hJ hs
    · refine ⟨sw0 hB, _, hRW.orr, ?_⟩
      refine ⟨_, _, (by first | exact sw5 hB | exact sw5 hD), ⟨by decide, by decide⟩, ⟨by omega, by omega⟩, _, (by first | exact hRW.o (by omega) | exact hRD.o (by omega)), ?_⟩
      refine ⟨sw0 hD, _, hRD.orr, ?_⟩
      refine ⟨_, _, (by first | exact sw5 hB | exact sw5 hD), ⟨by decide, by decide⟩, ⟨by omega, by omega⟩, _, (by first | exact hRW.o (by omega) | exact hRD.o (by omega)), ?_⟩
      refine ⟨⟨Nat.zero_le _, Nat.zero_le _, Nat.le_of_ble_eq_true rfl⟩, (by first | exact swO hB (by omega) | exact swO hD (by omega)), ?_⟩
      refine D_copyOrder hG (swO hB (by omega)) (swO hD (by omega)) (fun J2 j1 j2 => ?_)
      refine af_N0 rfl rfl rfl ?_
      try dsimp only
      try simp only [hJb]
      refine B_X8_copyFrom_120 ?_
      try dsimp only
      try simp only [hJb]
      refine ⟨by (refine ⟨?_, ?_⟩ <;> omega), ?_⟩
      refine ih (j + 1) _ (by omega) (fun c hc => ?_) (fun k hk => ?_)
      · rw [j1 c (by omega)]
        exact hJ c hc
      · by_cases e : k = j.toNat
        · rw [e]
          unfold odC
          rw [j2.1, j2.2.1, j2.2.2.1, j2.2.2.2, hJ _ (by omega)]
        · have := hs k (by omega)
          unfold odC at this ⊢
          rw [j1 _ (by omega)]
          exact this
theorem D_copyWar {G : amG} {I : Nat → Nat → Int} {R : Nat → Nat → Option Nat} {L : Nat → Nat → Int64} {x c t : Nat} {Q : amR → amH → Prop} (hG : amG0 G) {b d : Nat} (hB : wb b) (hRW : RW R b) (hD : wb d) (hRD : RW R d) (hne : b ≠ d) {z : Row} (hW : WV I d z) (hn : 0 ≤ z 98 ∧ z 98 ≤ 12) (ho : 0 ≤ z 195 ∧ z 195 ≤ 30) (hQ : ∀ J : Nat → Nat → Int, (∀ c : Nat, c < b ∨ b + 49 ≤ c → J c = I c) → WV J b z → (∀ k : Nat, (k : Int) < z 195 → odC J b k = odC I d k) → Q (Sum.inl none) (J, R, L, SH, x + 1, 0, 0)) : CT G sX8_copyFrom [aR (some b), aR (some d)] (I, R, L, SH, x, c, t) Q := by
  refine CT_of ok_X8_copyFrom hG (Nat.le_of_ble_eq_true rfl) ?_
  show X G mX8_copyFrom Q 0 _ [] (I, R, L, SH, x, 0, 0)
  have hbd := wb_ne hB hD hne
  refine B_X8_copyFrom_0 ?_
  try dsimp only
  refine ⟨sw0 hB, _, hRW.te, ?_⟩
  refine ⟨sw0 hD, _, hRD.te, ?_⟩
  refine ⟨⟨Nat.zero_le _, Nat.zero_le _, Nat.le_of_ble_eq_true rfl⟩, (by first | exact sw1 hB | exact sw1 hD), ?_⟩
  refine D_copyField hG hB hRW hD hRD (fun J1 p1 q1 => ?_)
  refine af_N0 rfl rfl rfl ?_
  try dsimp only
  refine B_X8_copyFrom_11 ?_
  try dsimp only
  refine L_cpA hG hB hRW hD hRD hne (fun J2 p2 q2 => ?_) 3 0 _ (by omega) (fun c _ _ => rfl) (fun s hs => by omega)
  refine B_X8_copyFrom_48 ?_
  try dsimp only
  refine ⟨sw0 hD, ?_⟩
  refine ⟨sw0 hB, ?_⟩
  refine L_cpB hG hB hRW hD hRD hne (m := z 98) hn (by rw [u2_same, p2 _ (by omega) (by omega), p1 _ (by omega)]; exact wN hW) (fun J3 p3' q3 => ?_) 13 0 _ (by omega) (fun c _ => rfl) (fun k f hk => by omega)
  refine B_X8_copyFrom_87 ?_
  try dsimp only
  refine ⟨sw0 hD, ?_⟩
  refine ⟨sw0 hB, ?_⟩
  have e5 : J3 d 5 = z 195 := by
    rw [p3' _ (by omega), u2_off _ _ _ (by omega), p2 _ (by omega) (by omega), p1 _ (by omega)]
    exact wO hW
  refine L_cpC hG hB hRW hD hRD hne (m := z 195) ho (by rw [u2_same]; exact e5) (fun J4 p4 q4 => ?_) 31 0 _ (by omega) (fun c _ => rfl) (fun k hk => by omega)
  refine B_X8_copyFrom_126 ?_
  try dsimp only
  refine ⟨sw0 hD, ?_⟩
  refine ⟨sw0 hB, ?_⟩
  refine ⟨sw0 hD, ?_⟩
  refine ⟨sw0 hB, ?_⟩
  refine ⟨sw0 hD, ?_⟩
  refine ⟨sw0 hB, ?_⟩
  refine ⟨rfl, ?_⟩
  have F : ∀ c : Nat, c ≠ b → u2 (u2 (u2 J4 b 6 (J4 d 6)) b 7 (u2 J4 b 6 (J4 d 6) d 7)) b 8 (u2 (u2 J4 b 6 (J4 d 6)) b 7 (u2 J4 b 6 (J4 d 6) d 7) d 8) c = J4 c := fun c hc => by
    rw [u2_off _ _ _ hc, u2_off _ _ _ hc, u2_off _ _ _ hc]
  have J4d : ∀ c : Nat, d ≤ c → c < d + 49 → J4 c = I c := fun c h1 h2 => by
    rw [p4 c (by omega), u2_off _ _ _ (by omega), p3' c (by omega), u2_off _ _ _ (by omega), p2 c (by omega) (by omega), p1 c (by omega)]
  have J2d : ∀ c : Nat, d ≤ c → c < d + 49 → J2 c = I c := fun c h1 h2 => by
    rw [p2 c (by omega) (by omega), p1 c (by omega)]
  have J1d : ∀ c : Nat, d ≤ c → c < d + 49 → J1 c = I c := fun c h1 h2 => p1 c (by omega)
  refine hQ _ (fun c hc => ?_) ⟨fun j hj => ?_, ⟨?_, ?_⟩, ?_, ?_, ?_, ?_, ?_, ⟨?_, ?_⟩, fun k f hk hf => ?_⟩ (fun k hk => ?_)
  · rw [F c (by omega), p4 c (by omega), u2_off _ _ _ (by omega), p3' c (by omega), u2_off _ _ _ (by omega), p2 c (by omega) (by omega), p1 c (by omega)]
  · rw [F _ (by omega), p4 _ (by omega), u2_off _ _ _ (by omega), p3' _ (by omega), u2_off _ _ _ (by omega), p2 _ (by omega) (by omega), q1 j hj]
    exact wH hW j hj
  · rw [F _ (by omega), p4 _ (by omega), u2_off _ _ _ (by omega), p3' _ (by omega), u2_off _ _ _ (by omega), (q2 0 (by decide)).1, J1d _ (by omega) (by omega)]
    exact wG0 hW
  · rw [F _ (by omega), p4 _ (by omega), u2_off _ _ _ (by omega), p3' _ (by omega), u2_off _ _ _ (by omega), (q2 1 (by decide)).1, J1d _ (by omega) (by omega)]
    exact wG1 hW
  · rw [u2_ne _ _ (by omega), u2_ne _ _ (by omega), u2_ne _ _ (by omega), p4 _ (by omega), u2_ne _ _ (by omega), p3' _ (by omega), u2_same, J2d _ (by omega) (by omega)]
    exact wN hW
  · rw [u2_ne _ _ (by omega), u2_ne _ _ (by omega), u2_ne _ _ (by omega), p4 _ (by omega), u2_same]
    exact e5
  · rw [u2_ne _ _ (by omega), u2_ne _ _ (by omega), u2_same, J4d _ (by omega) (by omega)]
    exact wTu hW
  · rw [u2_ne _ _ (by omega), u2_same, u2_off _ _ _ (by omega), J4d _ (by omega) (by omega)]
    exact wGi hW
  · rw [u2_same, u2_off _ _ _ (by omega), u2_off _ _ _ (by omega), J4d _ (by omega) (by omega)]
    exact wMi hW
  · rw [F _ (by omega), p4 _ (by omega), u2_off _ _ _ (by omega), p3' _ (by omega), u2_off _ _ _ (by omega), (q2 0 (by decide)).2, J1d _ (by omega) (by omega)]
    exact wL0 hW
  · rw [F _ (by omega), p4 _ (by omega), u2_off _ _ _ (by omega), p3' _ (by omega), u2_off _ _ _ (by omega), (q2 1 (by decide)).2, J1d _ (by omega) (by omega)]
    exact wL1 hW
  · rw [F _ (by omega), p4 _ (by omega), u2_off _ _ _ (by omega), q3 k f hk hf, u2_off _ _ _ (by omega), J2d _ (by omega) (by omega)]
    exact wT hW k f hk hf
  · have e := q4 k hk
    unfold odC at e ⊢
    rw [F _ (by omega), e, u2_off _ _ _ (by omega), p3' _ (by omega), u2_off _ _ _ (by omega), J2d _ (by omega) (by omega)]
