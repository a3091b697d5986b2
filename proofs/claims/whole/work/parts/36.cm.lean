/-! ===== all orders that are due come, the others close up ===== -/
def cpZ (z : Row) (k l : Nat) : Nat → Row
  | 0 => z
  | i + 1 => uz (cpZ z k l i) (196 + 4 * l + i) (cpZ z k l i (196 + 4 * k + i))
theorem cpZ_s (z : Row) (k l i : Nat) : cpZ z k l (i + 1) = uz (cpZ z k l i) (196 + 4 * l + i) (cpZ z k l i (196 + 4 * k + i)) := rfl
theorem cpZ_at {z : Row} {k l : Nat} (hl : l ≤ k) : ∀ i : Nat, i ≤ 4 → ∀ j : Nat, cpZ z k l i j = if 196 + 4 * l ≤ j ∧ j < 196 + 4 * l + i then z (196 + 4 * k + (j - (196 + 4 * l))) else z j := by
  intro i
  induction i with
  | zero => intro _ j; rw [if_neg (by omega)]; rfl
  | succ i ih =>
    intro hi j
    rw [cpZ_s]
    by_cases e : j = 196 + 4 * l + i
    · rw [e, uz_same, ih (by omega), if_neg (by omega), if_pos (by omega)]
      congr 1
      omega
    · rw [uz_ne _ _ e, ih (by omega)]
      by_cases c : 196 + 4 * l ≤ j ∧ j < 196 + 4 * l + i
      · rw [if_pos c, if_pos (by omega)]
      · rw [if_neg c, if_neg (by omega)]
def cmS (z : Row) : Nat → Row × Int
  | 0 => (z, 0)
  | k + 1 => if (cmS z k).1 (196 + 4 * k + 3) = (cmS z k).1 316 then (comeZ (cmS z k).1 ((cmS z k).1 (196 + 4 * k + 1)).toNat ((cmS z k).1 (196 + 4 * k + 2)), (cmS z k).2) else (cpZ (cmS z k).1 k (cmS z k).2.toNat 4, (cmS z k).2 + 1)
theorem cmS_s (z : Row) (k : Nat) : cmS z (k + 1) = if (cmS z k).1 (196 + 4 * k + 3) = (cmS z k).1 316 then (comeZ (cmS z k).1 ((cmS z k).1 (196 + 4 * k + 1)).toNat ((cmS z k).1 (196 + 4 * k + 2)), (cmS z k).2) else (cpZ (cmS z k).1 k (cmS z k).2.toNat 4, (cmS z k).2 + 1) := rfl
def comeAllZ (z : Row) : Row := uz (cmS z (z 195).toNat).1 195 (cmS z (z 195).toNat).2
theorem comeZ_off {z : Row} {k i : Nat} {v : Int} (hk : k < 12) (hi : i < 99 ∨ 195 ≤ i) (h8 : i ≠ 318) : comeZ z k v i = z i := by
  unfold comeZ
  split
  · rw [uz_ne _ _ (by omega), uz_ne _ _ (by omega)]
  · rw [uz_ne _ _ h8]
theorem comeZ_m {z : Row} {k : Nat} {v : Int} (hk : k < 12) : z 318 ≤ comeZ z k v 318 ∧ comeZ z k v 318 ≤ z 318 + 1 := by
  unfold comeZ
  split
  · rw [uz_ne _ _ (by omega), uz_ne _ _ (by omega)]; omega
  · rw [uz_same]; omega
theorem comeZ_t {z : Row} {k l g : Nat} {v : Int} (hl : l < 12) (hg : g < 8) (h3 : g ≠ 3) (h7 : g ≠ 7) : tf (comeZ z k v) l g = tf z l g := by
  unfold comeZ
  split
  · rw [tf_uz (by decide) hg, if_neg (fun w => h7 w.2), tf_uz (by decide) hg, if_neg (fun w => h3 w.2)]
  · rw [tf_off (by omega) hl hg]
theorem comeZ_3 {z : Row} {k l : Nat} {v : Int} (hl : l < 12) : tf (comeZ z k v) l 3 = tf z l 3 ∨ tf (comeZ z k v) l 3 = v := by
  unfold comeZ
  split
  · rw [tf_uz (by decide) (by decide), if_neg (by omega), tf_uz (by decide) (by decide)]
    split
    · exact Or.inr rfl
    · exact Or.inl rfl
  · exact Or.inl (tf_off (by omega) hl (by decide))
theorem comeZ_7 {z : Row} {k l : Nat} {v : Int} (hl : l < 12) : tf z l 7 ≤ tf (comeZ z k v) l 7 ∧ tf (comeZ z k v) l 7 ≤ tf z l 7 + 1 := by
  unfold comeZ
  split
  · rw [tf_uz (by decide) (by decide)]
    split
    · rename_i h
      rw [h.1]
      show tf z k 7 ≤ tf z k 7 + 1 ∧ tf z k 7 + 1 ≤ tf z k 7 + 1
      omega
    · rw [tf_uz (by decide) (by decide), if_neg (by omega)]
      omega
  · rw [tf_off (by omega) hl (by decide)]
    omega
