theorem cm_inv {z : Row} (ho : ∀ k : Nat, (k : Int) < z 195 → (0 ≤ z (196 + 4 * k + 1) ∧ z (196 + 4 * k + 1) < 12) ∧ isC (z (196 + 4 * k + 2))) (h30 : z 195 ≤ 30) : ∀ k : Nat, (k : Int) ≤ z 195 →
    (0 ≤ (cmS z k).2 ∧ (cmS z k).2 ≤ k) ∧
    (∀ i : Nat, i < 99 ∨ i = 195 ∨ 196 + 4 * k ≤ i → i ≠ 318 → (cmS z k).1 i = z i) ∧
    (z 318 ≤ (cmS z k).1 318 ∧ (cmS z k).1 318 ≤ z 318 + k) ∧
    (∀ l g : Nat, l < 12 → g < 8 → g ≠ 3 → g ≠ 7 → tf (cmS z k).1 l g = tf z l g) ∧
    (∀ l : Nat, l < 12 → tf z l 7 ≤ tf (cmS z k).1 l 7 ∧ tf (cmS z k).1 l 7 ≤ tf z l 7 + k) ∧
    (∀ l : Nat, l < 12 → isC (tf z l 3) → isC (tf (cmS z k).1 l 3)) := by
  intro k
  induction k with
  | zero =>
    intro _
    refine ⟨?_, fun i _ _ => rfl, ?_, fun l g _ _ _ _ => rfl, fun l _ => ?_, fun l _ h => h⟩
    · show 0 ≤ (0 : Int) ∧ (0 : Int) ≤ ((0 : Nat) : Int)
      omega
    · show z 318 ≤ z 318 ∧ z 318 ≤ z 318 + ((0 : Nat) : Int)
      omega
    · show tf z l 7 ≤ tf z l 7 ∧ tf z l 7 ≤ tf z l 7 + ((0 : Nat) : Int)
      omega
  | succ k ih =>
    intro hk
    obtain ⟨h1, h2, h3, h4, h5, h6⟩ := ih (by omega)
    have hok := ho k (by omega)
    have e1 := h2 (196 + 4 * k + 1) (by omega) (by omega)
    have e2 := h2 (196 + 4 * k + 2) (by omega) (by omega)
    rw [cmS_s]
    generalize cmS z k = S at *
    split
    · rw [e1, e2]
      have hkt : (z (196 + 4 * k + 1)).toNat < 12 := by omega
      refine ⟨by show 0 ≤ S.2 ∧ S.2 ≤ ((k + 1 : Nat) : Int); omega, fun i hi h8 => ?_, ?_, fun l g hl hg g3 g7 => ?_, fun l hl => ?_, fun l hl hc => ?_⟩
      · show comeZ _ _ _ i = z i
        rw [comeZ_off hkt (by omega) h8]
        exact h2 i (by omega) h8
      · have := comeZ_m (z := S.1) (v := z (196 + 4 * k + 2)) hkt
        show z 318 ≤ comeZ _ _ _ 318 ∧ comeZ _ _ _ 318 ≤ z 318 + ((k + 1 : Nat) : Int)
        omega
      · show tf (comeZ _ _ _) l g = tf z l g
        rw [comeZ_t hl hg g3 g7]
        exact h4 l g hl hg g3 g7
      · have a := comeZ_7 (z := S.1) (k := (z (196 + 4 * k + 1)).toNat) (v := z (196 + 4 * k + 2)) hl
        have b := h5 l hl
        show tf z l 7 ≤ tf (comeZ _ _ _) l 7 ∧ tf (comeZ _ _ _) l 7 ≤ tf z l 7 + ((k + 1 : Nat) : Int)
        omega
      · show isC (tf (comeZ _ _ _) l 3)
        rcases comeZ_3 (z := S.1) (k := (z (196 + 4 * k + 1)).toNat) (v := z (196 + 4 * k + 2)) hl with a | a
        · rw [a]; exact h6 l hl hc
        · rw [a]; exact hok.2
    · have hc := cpZ_at (z := S.1) (k := k) (l := S.2.toNat) (by omega) 4 (by decide)
      have hlow : ∀ i : Nat, i < 196 → cpZ S.1 k S.2.toNat 4 i = S.1 i := fun i hi => by rw [hc i, if_neg (by omega)]
      refine ⟨by show 0 ≤ S.2 + 1 ∧ S.2 + 1 ≤ ((k + 1 : Nat) : Int); omega, fun i hi h8 => ?_, ?_, fun l g hl hg g3 g7 => ?_, fun l hl => ?_, fun l hl hcc => ?_⟩
      · show cpZ _ _ _ _ i = z i
        rw [hc i, if_neg (by omega)]
        exact h2 i (by omega) h8
      · show z 318 ≤ cpZ _ _ _ _ 318 ∧ cpZ _ _ _ _ 318 ≤ z 318 + ((k + 1 : Nat) : Int)
        rw [hc 318, if_neg (by omega)]
        omega
      · show tf (cpZ _ _ _ _) l g = tf z l g
        unfold tf
        rw [hlow _ (by omega)]
        exact h4 l g hl hg g3 g7
      · have b := h5 l hl
        show tf z l 7 ≤ tf (cpZ _ _ _ _) l 7 ∧ tf (cpZ _ _ _ _) l 7 ≤ tf z l 7 + ((k + 1 : Nat) : Int)
        unfold tf at b ⊢
        rw [hlow _ (by omega)]
        omega
      · have b := h6 l hl hcc
        show isC (tf (cpZ _ _ _ _) l 3)
        unfold tf at b ⊢
        rw [hlow _ (by omega)]
        exact b
