/-- troop l behind a fight -/
theorem fightZ_t {z : Row} (hn : wfN z) (ht : wfT z) {l : Nat} (hl : (l : Int) < z 98) : ∃ v : Int, 0 ≤ v ∧ v ≤ tf z l 2 ∧ tf (fightZ z) l 6 = v ∧ tf (fightZ z) l 2 = tf z l 2 - v ∧ tf (fightZ z) l 4 = (if tf z l 2 - v = 0 then 2 else tf z l 4) ∧ ∀ g : Nat, g < 8 → g ≠ 2 → g ≠ 4 → g ≠ 6 → tf (fightZ z) l g = tf z l g := by
  have hn1 := hn.1
  have hn2 := hn.2
  have hA := fA_inv (z := z) (z 98).toNat
  have hT := fA_T ht hn (z 98).toNat
  have h98 := fA_N (z := z) (z 98).toNat
  have hB := fB_inv (y := fA z (z 98).toNat) (z 98).toNat (by omega) (fun l hl => ⟨(hT l (by omega)).1, (hT l (by omega)).2.2.2.2.2.2.1⟩)
  obtain ⟨m, m1, m2, m3⟩ := hA.2.2 l (by omega)
  have hlt := ht l hl
  unfold wfT1 at hlt
  have hb := lossZ_b (z := fA z m) (k := l) (by rw [m3 2 (by decide) (by decide)]; exact hlt.2.2.1)
  rw [m3 2 (by decide) (by decide), m3 4 (by decide) (by decide)] at hb
  have e2 := hA.2.1 l 2 (by decide) (by decide)
  have e4 := hA.2.1 l 4 (by decide) (by decide)
  refine ⟨lossZ (fA z m) l, hb.1, ?_, ?_, ?_, ?_, fun g g8 g2 g4 g6 => ?_⟩
  · by_cases q : tf z l 4 = 2
    · have : lossZ (fA z m) l = 0 := by unfold lossZ; rw [m3 4 (by decide) (by decide)]; exact if_pos q
      omega
    · exact hb.2.2 q
  · show tf (fB _ _) l 6 = _
    rw [hB.2.1 l 6 (by omega) (by decide), if_neg (by omega), if_neg (by omega), m2]
  · show tf (fB _ _) l 2 = _
    rw [hB.2.1 l 2 (by omega) (by decide), if_pos (by omega), e2, m2]
  · show tf (fB _ _) l 4 = _
    rw [hB.2.1 l 4 (by omega) (by decide), if_neg (show ¬ (l < (z 98).toNat ∧ 4 = 2) by omega), if_pos (show l < (z 98).toNat ∧ 4 = 4 by omega), e2, e4, m2]
  · show tf (fB _ _) l g = _
    rw [hB.2.1 l g (by omega) g8, if_neg (by omega), if_neg (by omega)]
    exact hA.2.1 l g g8 g6
theorem fightZ_off {z : Row} (hn : wfN z) (ht : wfT z) {i : Nat} (hi : i < 99 ∨ (195 ≤ i ∧ i ≠ 319 ∧ i ≠ 320)) : fightZ z i = z i := by
  have hn1 := hn.1
  have hn2 := hn.2
  have hT := fA_T ht hn (z 98).toNat
  have h98 := fA_N (z := z) (z 98).toNat
  have hB := fB_inv (y := fA z (z 98).toNat) (z 98).toNat (by omega) (fun l hl => ⟨(hT l (by omega)).1, (hT l (by omega)).2.2.2.2.2.2.1⟩)
  show fB _ _ i = _
  rw [hB.1 i hi]
  exact (fA_inv (z := z) (z 98).toNat).1 i (by omega)
theorem fightZ_T {z : Row} (hn : wfN z) (ht : wfT z) : wfT (fightZ z) := fun l hl => by
  rw [fightZ_off hn ht (Or.inl (by decide))] at hl
  have h := ht l hl
  obtain ⟨v, v0, v1, e6, e2, e4, eg⟩ := fightZ_t hn ht hl
  unfold wfT1 at h ⊢
  rw [e6, e2, e4, eg 0 (by decide) (by decide) (by decide) (by decide), eg 1 (by decide) (by decide) (by decide) (by decide), eg 3 (by decide) (by decide) (by decide) (by decide), eg 5 (by decide) (by decide) (by decide) (by decide), eg 7 (by decide) (by decide) (by decide) (by decide)]
  split <;> omega
theorem fightZ_S {z : Row} (hn : wfN z) (ht : wfT z) (hs : wfS z) : wfS (fightZ z) := fun l hl => by
  rw [fightZ_off hn ht (Or.inl (by decide))] at hl
  have h := hs l hl
  obtain ⟨v, v0, v1, e6, e2, e4, eg⟩ := fightZ_t hn ht hl
  rw [e2, e4, eg 5 (by decide) (by decide) (by decide) (by decide)]
  split <;> omega
theorem fightZ_U {z : Row} (hn : wfN z) (ht : wfT z) (hu : wfU z) : wfU (fightZ z) := by
  refine wfU_of (fightZ_off hn ht (Or.inl (by decide))) (fun l hl => ?_) (fun l hl h => ?_) hu
  · obtain ⟨v, v0, v1, e6, e2, e4, eg⟩ := fightZ_t hn ht hl
    exact eg 1 (by decide) (by decide) (by decide) (by decide)
  · obtain ⟨v, v0, v1, e6, e2, e4, eg⟩ := fightZ_t hn ht hl
    rw [e4] at h
    split at h
    · exact absurd rfl h
    · exact h
