theorem comeAll_all {z : Row} (ho : ∀ k : Nat, (k : Int) < z 195 → (0 ≤ z (196 + 4 * k + 1) ∧ z (196 + 4 * k + 1) < 12) ∧ isC (z (196 + 4 * k + 2))) (h30 : 0 ≤ z 195 ∧ z 195 ≤ 30) :
    (∀ i : Nat, i < 99 ∨ 316 ≤ i → i ≠ 318 → comeAllZ z i = z i) ∧
    (0 ≤ comeAllZ z 195 ∧ comeAllZ z 195 ≤ z 195) ∧
    (∀ l g : Nat, l < 12 → g < 8 → g ≠ 3 → g ≠ 7 → tf (comeAllZ z) l g = tf z l g) ∧
    (∀ l : Nat, l < 12 → isC (tf z l 3) → isC (tf (comeAllZ z) l 3)) ∧
    (∀ l : Nat, l < 12 → tf z l 7 ≤ tf (comeAllZ z) l 7) := by
  have h := cm_inv (z := z) ho h30.2 (z 195).toNat (by omega)
  have ht : ∀ l g : Nat, l < 12 → g < 8 → tf (comeAllZ z) l g = tf (cmS z (z 195).toNat).1 l g := fun l g hl hg => tf_off (by omega) hl hg
  refine ⟨fun i hi h8 => ?_, ?_, fun l g hl hg g3 g7 => ?_, fun l hl hc => ?_, fun l hl => ?_⟩
  · show uz _ 195 _ i = _
    rw [uz_ne _ _ (by omega)]
    exact h.2.1 i (by omega) h8
  · show 0 ≤ uz _ 195 _ 195 ∧ uz _ 195 _ 195 ≤ _
    rw [uz_same]
    omega
  · rw [ht l g hl hg]; exact h.2.2.2.1 l g hl hg g3 g7
  · rw [ht l 3 hl (by decide)]; exact h.2.2.2.2.2 l hl hc
  · rw [ht l 7 hl (by decide)]; exact (h.2.2.2.2.1 l hl).1
