/-! ===== the model: all troops fight at once ===== -/
theorem wfH_uz {z : Row} (h : wfH z) {i : Nat} (v : Int) (hi : 96 ≤ i) : wfH (uz z i v) := fun j hj => by
  rw [uz_ne z v (by omega : j ≠ i)]
  exact h j hj
theorem tf_uz {z : Row} {k l f g : Nat} {v : Int} (hf : f < 8) (hg : g < 8) : tf (uz z (99 + 8 * k + f) v) l g = if l = k ∧ g = f then v else tf z l g := by
  unfold tf uz
  by_cases h : l = k ∧ g = f
  · rw [if_pos h, if_pos (by rw [h.1, h.2])]
  · rw [if_neg h, if_neg (by omega)]
theorem tf_off {z : Row} {i l g : Nat} {v : Int} (hi : i < 99 ∨ 195 ≤ i) (hl : l < 12) (hg : g < 8) : tf (uz z i v) l g = tf z l g := by
  unfold tf
  exact uz_ne z v (by omega)
def fA (z : Row) : Nat → Row
  | 0 => z
  | n + 1 => uz (fA z n) (99 + 8 * n + 6) (lossZ (fA z n) n)
theorem fA_s (z : Row) (n : Nat) : fA z (n + 1) = uz (fA z n) (99 + 8 * n + 6) (lossZ (fA z n) n) := rfl
theorem fA_inv {z : Row} : ∀ n : Nat, (∀ i : Nat, i < 99 ∨ 99 + 8 * n ≤ i → fA z n i = z i) ∧ (∀ l g : Nat, g < 8 → g ≠ 6 → tf (fA z n) l g = tf z l g) ∧ (∀ l : Nat, l < n → ∃ m : Nat, m < n ∧ tf (fA z n) l 6 = lossZ (fA z m) l ∧ ∀ g : Nat, g < 8 → g ≠ 6 → tf (fA z m) l g = tf z l g) := by
  intro n
  induction n with
  | zero => exact ⟨fun i _ => rfl, fun l g _ _ => rfl, fun l hl => absurd hl (Nat.not_lt_zero _)⟩
  | succ n ih =>
    rw [fA_s]
    refine ⟨fun i hi => ?_, fun l g h8 h6 => ?_, fun l hl => ?_⟩
    · rw [uz_ne _ _ (by omega : i ≠ 99 + 8 * n + 6)]; exact ih.1 i (by omega)
    · rw [tf_uz (by decide) h8, if_neg (fun w => h6 w.2)]; exact ih.2.1 l g h8 h6
    · rw [tf_uz (by decide) (by decide)]
      by_cases e : l = n
      · rw [if_pos ⟨e, rfl⟩, e]
        exact ⟨n, Nat.lt_succ_self n, rfl, fun g h8 h6 => ih.2.1 n g h8 h6⟩
      · rw [if_neg (fun w => e w.1)]
        obtain ⟨m, h1, h2, h3⟩ := ih.2.2 l (by omega)
        exact ⟨m, by omega, h2, h3⟩
theorem fA_T {z : Row} (ht : wfT z) (hn : wfN z) (n : Nat) : wfT (fA z n) := fun k hk => by
  have hi := fA_inv (z := z) n
  rw [hi.1 98 (Or.inl (by decide))] at hk
  have h := ht k hk
  unfold wfT1 at h ⊢
  rw [hi.2.1 k 0 (by decide) (by decide), hi.2.1 k 1 (by decide) (by decide), hi.2.1 k 2 (by decide) (by decide), hi.2.1 k 3 (by decide) (by decide), hi.2.1 k 4 (by decide) (by decide), hi.2.1 k 5 (by decide) (by decide), hi.2.1 k 7 (by decide) (by decide)]
  refine ⟨h.1, h.2.1, h.2.2.1, h.2.2.2.1, h.2.2.2.2.1, h.2.2.2.2.2.1, ?_, h.2.2.2.2.2.2.2⟩
  by_cases e : k < n
  · obtain ⟨m, h1, h2, h3⟩ := hi.2.2 k e
    rw [h2]
    have := lossZ_b (z := fA z m) (k := k) (by rw [h3 2 (by decide) (by decide)]; exact h.2.2.1)
    omega
  · have : tf (fA z n) k 6 = tf z k 6 := hi.1 _ (Or.inr (by omega))
    rw [this]
    exact h.2.2.2.2.2.2.1
theorem fA_H {z : Row} (hh : wfH z) (n : Nat) : wfH (fA z n) := fun j hj => by
  rw [(fA_inv (z := z) n).1 j (Or.inl (by omega))]
  exact hh j hj
theorem fA_N {z : Row} (n : Nat) : fA z n 98 = z 98 := (fA_inv (z := z) n).1 98 (Or.inl (by decide))
/-- troop n takes its loss -/
def fB1 (y : Row) (n : Nat) : Row := uz (uz (uz y (99 + 8 * n + 2) (y (99 + 8 * n + 2) - y (99 + 8 * n + 6))) (319 + y (99 + 8 * n + 0)).toNat (y (319 + y (99 + 8 * n + 0)).toNat + y (99 + 8 * n + 6))) (99 + 8 * n + 4) (if y (99 + 8 * n + 2) - y (99 + 8 * n + 6) = 0 then 2 else y (99 + 8 * n + 4))
def fB (y : Row) : Nat → Row
  | 0 => y
  | n + 1 => fB1 (fB y n) n
theorem fB_s (y : Row) (n : Nat) : fB y (n + 1) = fB1 (fB y n) n := rfl
theorem L_fightA {G : amG} {I : Nat → Nat → Int} {R : Nat → Nat → Option Nat} {L : Nat → Nat → Int64} {x : Nat} {Q : amR → amH → Prop} (hG : amG0 G) (hR : RM R) {z f q : Row} (hh : wfH z) (hn : wfN z) (ht : wfT z) (hK : X G mX10_fight Q 43 [some (aR (some 361)), some (aI (z 98))] [] (m3 I (fA z (z 98).toNat) f q, R, L, SH, x, 0, 0)) :
    ∀ (n : Nat) (j : Int), 0 ≤ j ∧ j ≤ z 98 ∧ z 98 - j < n → X G mX10_fight Q 2 [some (aR (some 361)), some (aI j)] [] (m3 I (fA z j.toNat) f q, R, L, SH, x, 0, 0) := by
  intro n
  induction n with
  | zero =>
    intros
    exfalso; omega
  | succ n ih =>
    intro j h1
    have h98 := fA_N (z := z) j.toNat
    have hn1 := hn.1
    have hn2 := hn.2
    have hA := fA_H hh j.toNat
    have hT := fA_T ht hn j.toNat
    have hN : wfN (fA z j.toNat) := by unfold wfN; rw [h98]; exact hn
    have hs := fA_s z j.toNat
    refine B_X10_fight_2 ?_
    try dsimp only
    try simp (disch := omega) only [m3_z, u2_m3_z, Int.reduceToNat]
    refine ⟨sh361, _, hR.z, ?_⟩
    refine ⟨_, sh362, ⟨by omega, by omega⟩, ?_⟩
    try simp (disch := omega) only [m3_z, u2_m3_z, Int.reduceToNat]
    refine ⟨fun c10_0 => ?_, fun c10_0 => ?_⟩
    · have e : j = z 98 := by omega
      rw [e]
      exact hK
    · refine ⟨⟨Nat.zero_le _, Nat.zero_le _, Nat.le_of_ble_eq_true rfl⟩, sh361, ?_⟩
      refine C_isGone hG hR (by omega) (fun r hr => ?_)
      have hr : (tf (fA z j.toNat) j.toNat 4 = 2 ∧ r = 1) ∨ (tf (fA z j.toNat) j.toNat 4 ≠ 2 ∧ r = 0) := hr
      refine af_I0 rfl rfl (by decide) ?_
      try dsimp only
      try simp (disch := omega) only [m3_z, u2_m3_z, Int.reduceToNat]
      refine B_X10_fight_22 ?_
      try dsimp only
      try simp (disch := omega) only [m3_z, u2_m3_z, Int.reduceToNat]
      refine ⟨fun c22_1 => ?_, fun c22_1 => ?_⟩
      · refine B_X10_fight_29 ?_
        try dsimp only
        try simp (disch := omega) only [m3_z, u2_m3_z, Int.reduceToNat]
        refine ⟨⟨Nat.zero_le _, Nat.zero_le _, Nat.le_of_ble_eq_true rfl⟩, sh361, ?_⟩
        refine C_loss hG hR (I := m3 I (fA z j.toNat) f q) hA hN (k := j) (by show 0 ≤ j ∧ j < fA z j.toNat 98; omega) (hT j.toNat (by omega)) (by show tf (fA z j.toNat) j.toNat 4 ≠ 2; omega) (fun r2 hr2 => ?_)
        have hr2 : r2 = lossZ (fA z j.toNat) j.toNat := hr2
        subst hr2
        refine af_I0 rfl rfl (by decide) ?_
        try dsimp only
        try simp (disch := omega) only [m3_z, u2_m3_z, Int.reduceToNat]
        refine B_X10_fight_34 ?_
        try dsimp only
        try simp (disch := omega) only [m3_z, u2_m3_z, Int.reduceToNat]
        refine ⟨⟨Nat.zero_le _, Nat.zero_le _, Nat.le_of_ble_eq_true rfl⟩, sh361, ?_⟩
        refine C_lay hG hR (by omega) (by decide) ?_
        refine af_N0 rfl rfl rfl ?_
        try dsimp only
        try simp (disch := omega) only [m3_z, u2_m3_z, Int.reduceToNat]
        refine B_X10_fight_37 ?_
        try dsimp only
        try simp (disch := omega) only [m3_z, u2_m3_z, Int.reduceToNat]
        refine ⟨by (refine ⟨?_, ?_⟩ <;> omega), ?_⟩
        first
          | (have e0 : lossZ (fA z j.toNat) j.toNat = 0 := by unfold lossZ; exact if_pos (by omega)
             have e := ih (j + 1) (by omega)
             rw [show (j + 1).toNat = j.toNat + 1 by omega, hs, e0] at e
             exact e)
          | (have e := ih (j + 1) (by omega)
             rw [show (j + 1).toNat = j.toNat + 1 by omega, hs] at e
             exact e)
      · refine B_X10_fight_34 ?_
        try dsimp only
        try simp (disch := omega) only [m3_z, u2_m3_z, Int.reduceToNat]
        refine ⟨⟨Nat.zero_le _, Nat.zero_le _, Nat.le_of_ble_eq_true rfl⟩, sh361, ?_⟩
        refine C_lay hG hR (by omega) (by decide) ?_
        refine af_N0 rfl rfl rfl ?_
        try dsimp only
        try simp (disch := omega) only [m3_z, u2_m3_z, Int.reduceToNat]
        refine B_X10_fight_37 ?_
        try dsimp only
        try simp (disch := omega) only [m3_z, u2_m3_z, Int.reduceToNat]
        refine ⟨by (refine ⟨?_, ?_⟩ <;> omega), ?_⟩
        first
          | (have e0 : lossZ (fA z j.toNat) j.toNat = 0 := by unfold lossZ; exact if_pos (by omega)
             have e := ih (j + 1) (by omega)
             rw [show (j + 1).toNat = j.toNat + 1 by omega, hs, e0] at e
             exact e)
          | (have e := ih (j + 1) (by omega)
             rw [show (j + 1).toNat = j.toNat + 1 by omega, hs] at e
             exact e)
