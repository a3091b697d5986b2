/-! ===== the class: the digest ===== -/
theorem shZr_bits {z : Row} (hn : wfN z) (ht : wfT z) (hs : wfS z) : (shZr z).toNat = 0 ∨ 4571153621781053440 ≤ (shZr z).toNat := by
  have h1 := fiN_b ht (z 98).toNat (by have := hn.1; omega)
  have h2 := st_fi ht hs (z 98).toNat (by have := hn.1; omega)
  have h3 := stN_b ht 0 (z 98).toNat (by have := hn.1; omega)
  have h4 := stN_b ht 1 (z 98).toNat (by have := hn.1; omega)
  have hn2 := hn.2
  unfold shZr
  split
  · exact Or.inr (by decide)
  · rcases (shD_ok (a := (stN z 0 (z 98).toNat + stN z 1 (z 98).toNat).toNat) (b := (fiN z (z 98).toNat).toNat) (by omega) (by omega) (by omega)).1 with e | e
    · exact Or.inl e.2
    · exact Or.inr e.2
abbrev F6 (z : Row) (w : Nat) : Int := sfN z (z (96 + w)) 96
theorem mxN0 (f : Nat → Int) (h : Int64) : mxN f h (0 : Int).toNat = h := rfl
theorem mxN2 (f : Nat → Int) (h : Int64) : mxN f h 2 = mx (mx h (Int64.ofInt (f 0))) (Int64.ofInt (f 1)) := rfl
theorem dgA_m (z : Row) (n : Int) (u : Int64) : mxN (F6 z) (dgB z n u) 2 = dgA z n u := by
  unfold dgA
  rw [mxN2]
theorem L_digestB {G : amG} {I : Nat → Nat → Int} {R : Nat → Nat → Option Nat} {L : Nat → Nat → Int64} {x : Nat} {Q : amR → amH → Prop} (hG : amG0 G) (hRK : RK R) {z : Row} {n : Int} {zs : Nat → Row} (hC : CS I R z n zs) (hZ : ZF z) {u : Int64} (hK : X G mX9_digest Q 64 [some (aR (some 0)), some (aL (mxN (F6 z) u 2)), none, some (aI 2)] [] (I, R, L, SH, x, 0, 0)) :
    ∀ (n_ : Nat) (j : Int), (0 ≤ j ∧ j ≤ 2 ∧ 2 - j < n_) → X G mX9_digest Q 28 [some (aR (some 0)), some (aL (mxN (F6 z) u j.toNat)), none, some (aI j)] [] (I, R, L, SH, x, 0, 0) := by
  intro n_
  induction n_ with
  | zero =>
    intros
    exfalso; omega
  | succ n_ ih =>
    intro j h1
    have hs := mxN_s (F6 z) u j.toNat
    have hg0 := hZ.1.1.2.2.2.2.1.1
    have hg1 := hZ.1.1.2.2.2.2.1.2
    have hg : j < 2 → I 4 j.toNat = z (96 + j.toNat) ∧ isC (I 4 j.toNat) := by
      intro q
      have e0 : I 4 0 = z 96 := wG0 hC.1
      have e1 : I 4 1 = z 97 := wG1 hC.1
      rcases (by omega : j = 0 ∨ j = 1) with e | e
      · subst e; exact ⟨e0, by show isC (I 4 0); rw [e0]; exact hg0⟩
      · subst e; exact ⟨e1, by show isC (I 4 1); rw [e1]; exact hg1⟩
    refine B_X9_digest_28 ?_
    try dsimp only
    refine ⟨fun c30_0 => ?_, fun c30_0 => ?_⟩
    · have e : j = 2 := by omega
      rw [e]
      exact hK
    · refine ⟨so0, _, (by first | exact hRK2.x.1 | exact hRK.x.1), ?_⟩
      refine ⟨sw0 w1, _, (by first | exact (hRK2.w w1).te | exact (hRK.w w1).te), ?_⟩
      refine ⟨so0, _, (by first | exact hRK2.x.1 | exact hRK.x.1), ?_⟩
      refine ⟨sw0 w1, _, (by first | exact (hRK2.w w1).ge | exact (hRK.w w1).ge), ?_⟩
      refine ⟨_, sw3 w1, ⟨by omega, by omega⟩, ?_⟩
      refine ⟨⟨Nat.zero_le _, Nat.zero_le _, Nat.le_of_ble_eq_true rfl⟩, sw1 w1, ?_⟩
      refine D_cellsInSight hG w1 (hRK.w w1) (wH hC.1) hZ.1.1.1 (hg (by omega)).2 (fun r hr => ?_)
      refine af_I0 rfl rfl (by decide) ?_
      try dsimp only
      refine B_X9_digest_53 ?_
      try dsimp only
      refine ⟨⟨Nat.zero_le _, Nat.zero_le _, Nat.le_of_ble_eq_true rfl⟩, trivial, ?_⟩
      refine D_mix hG ?_
      refine af_I0 rfl rfl (by decide) ?_
      try dsimp only
      refine B_X9_digest_57 ?_
      try dsimp only
      refine ⟨by (refine ⟨?_, ?_⟩ <;> omega), ?_⟩
      have e := ih (j + 1) (by omega)
      rw [show (j + 1).toNat = j.toNat + 1 by omega, hs] at e
      have ef : F6 z j.toNat = r := by
        show sfN z (z (96 + j.toNat)) 96 = r
        rw [hr, (hg (by omega)).1]
      rw [ef] at e
      exact e
theorem L_digestC {G : amG} {I : Nat → Nat → Int} {R : Nat → Nat → Option Nat} {L : Nat → Nat → Int64} {x : Nat} {Q : amR → amH → Prop} (hG : amG0 G) (hRK : RK R) {z : Row} {n : Int} {zs : Nat → Row} (hC : CS I R z n zs) (hZ : ZF z) (hl : 0 ≤ I 346 1 ∧ I 346 1 ≤ 60) {u : Int64} (hQ : ∀ K : Nat → Nat → Int, (∀ a : Nat, a < 50 ∨ 99 ≤ a → a ≠ 358 → a ≠ 359 → a ≠ 360 → K a = I a) → CS K R z n zs → Q (Sum.inl (some (aL (mxN (I 347) (mx (mx (dgP z u) (shZr z).toInt64) (Int64.ofInt (I 346 1))) (I 346 1).toNat)))) (K, R, L, SH, x + 1, 0, 0)) : X G mX9_digest Q 64 [some (aR (some 0)), some (aL (u)), none, some (aI 2)] [] (I, R, L, SH, x, 0, 0) := by
  refine B_X9_digest_64 ?_
  try dsimp only
  refine ⟨⟨Nat.zero_le _, Nat.zero_le _, Nat.le_of_ble_eq_true rfl⟩, so0, ?_⟩
  refine D_mixAhead hG hRK hC hZ (fun K kf hCK => ?_)
  refine af_I0 rfl rfl (by decide) ?_
  try dsimp only
  refine B_X9_digest_69 ?_
  try dsimp only
  refine ⟨so0, _, (by first | exact hRK2.x.1 | exact hRK.x.1), ?_⟩
  refine ⟨⟨Nat.zero_le _, Nat.zero_le _, Nat.le_of_ble_eq_true rfl⟩, sw0 w1, ?_⟩
  refine D_shareLeft hG w1 (hRK.w w1) hCK.1 hZ.1.1 ?_
  refine af_I0 rfl rfl (by decide) ?_
  try dsimp only
  refine B_X9_digest_78 ?_
  try dsimp only
  refine ⟨⟨Nat.zero_le _, Nat.zero_le _, Nat.le_of_ble_eq_true rfl⟩, trivial, ?_⟩
  refine D_bitsOf hG (shZr_bits hZ.1.1.2.1 hZ.1.1.2.2.1 hZ.1.1.2.2.2.2.2) (shZr_ok hZ.1.1.2.1 hZ.1.1.2.2.1 hZ.1.1.2.2.2.2.2) ?_
  refine af_I0 rfl rfl (by decide) ?_
  try dsimp only
  refine B_X9_digest_81 ?_
  try dsimp only
  refine ⟨⟨Nat.zero_le _, Nat.zero_le _, Nat.le_of_ble_eq_true rfl⟩, trivial, ?_⟩
  refine D_mix hG ?_
  refine af_I0 rfl rfl (by decide) ?_
  try dsimp only
  refine B_X9_digest_84 ?_
  try dsimp only
  refine ⟨⟨Nat.zero_le _, Nat.zero_le _, Nat.le_of_ble_eq_true rfl⟩, so0, ?_⟩
  have k1 : K 346 = I 346 := kf 346 (by decide) (by decide) (by decide) (by decide)
  have k2 : K 347 = I 347 := kf 347 (by decide) (by decide) (by decide) (by decide)
  refine D_mixText hG hRK hCK hZ (by rw [k1]; exact hl) ?_
  rw [k1, k2]
  refine af_I0 rfl rfl (by decide) ?_
  try dsimp only
  refine B_X9_digest_90 ?_
  try dsimp only
  refine ⟨rfl, ?_⟩
  exact hQ K kf hCK
theorem D_digest {G : amG} {I : Nat → Nat → Int} {R : Nat → Nat → Option Nat} {L : Nat → Nat → Int64} {x c t : Nat} {Q : amR → amH → Prop} (hG : amG0 G) (hRK : RK R) {z : Row} {n : Int} {zs : Nat → Row} (hC : CS I R z n zs) (hZ : ZF z) (hl : 0 ≤ I 346 1 ∧ I 346 1 ≤ 60) (hQ : QW Q I L (Sum.inl (some (aL (dgF z n (I 347) (I 346 1))))) z n zs) : CT G sX9_digest [aR (some 0)] (I, R, L, SH, x, c, t) Q := by
  refine CT_of ok_X9_digest hG (Nat.le_of_ble_eq_true rfl) ?_
  show X G mX9_digest Q 0 _ [] (I, R, L, SH, x, 0, 0)
  refine B_X9_digest_0 ?_
  try dsimp only
  refine ⟨⟨Nat.zero_le _, Nat.zero_le _, Nat.le_of_ble_eq_true rfl⟩, so0, ?_⟩
  refine D_mixCounts hG hRK hC hZ ?_
  refine af_I0 rfl rfl (by decide) ?_
  try dsimp only
  refine B_X9_digest_7 ?_
  try dsimp only
  refine ⟨⟨Nat.zero_le _, Nat.zero_le _, Nat.le_of_ble_eq_true rfl⟩, so0, ?_⟩
  refine D_mixCells hG hRK hC hZ ?_
  refine af_I0 rfl rfl (by decide) ?_
  try dsimp only
  refine B_X9_digest_13 ?_
  try dsimp only
  refine ⟨⟨Nat.zero_le _, Nat.zero_le _, Nat.le_of_ble_eq_true rfl⟩, so0, ?_⟩
  refine D_mixTroops hG hRK hC hZ (fun J jf hCJ => ?_)
  refine af_I0 rfl rfl (by decide) ?_
  try dsimp only
  refine B_X9_digest_19 ?_
  try dsimp only
  refine ⟨⟨Nat.zero_le _, Nat.zero_le _, Nat.le_of_ble_eq_true rfl⟩, so0, ?_⟩
  refine D_mixOrders hG hRK hCJ hZ ?_
  refine af_I0 rfl rfl (by decide) ?_
  try dsimp only
  refine B_X9_digest_25 ?_
  try dsimp only
  have j1 : J 346 = I 346 := jf 346 (by decide) (by decide)
  have j2 : J 347 = I 347 := jf 347 (by decide) (by decide)
  have ea : mxN (F6 z) (dgB z n (Int64.ofNat 2243)) 2 = dgA z n (Int64.ofNat 2243) := dgA_m z n _
  have hK : X G mX9_digest Q 64 [some (aR (some 0)), some (aL (mxN (F6 z) (dgB z n (Int64.ofNat 2243)) 2)), none, some (aI 2)] [] (J, R, L, SH, x, 0, 0) := by
    rw [ea]
    refine L_digestC hG hRK hCJ hZ (by rw [j1]; exact hl) (fun K kf hCK => ?_)
    rw [j1, j2]
    exact hQ K R _ _ _ (fun a ha => by rw [kf a (by omega) (by omega) (by omega) (by omega)]; exact jf a (by omega) (by omega)) (by rw [kf 346 (by decide) (by decide) (by decide) (by decide), j1]) (by rw [kf 347 (by decide) (by decide) (by decide) (by decide), j2]) hRK hCK
  have e := L_digestB hG hRK hCJ hZ hK 3 0 (by omega)
  have m0 : mxN (F6 z) (dgB z n (Int64.ofNat 2243)) (0 : Int).toNat = dgB z n (Int64.ofNat 2243) := mxN0 _ _
  rw [m0] at e
  exact e
