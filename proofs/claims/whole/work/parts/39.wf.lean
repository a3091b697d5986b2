/-! ===== what holds of every row ===== -/
/-- the gone have no strength, nobody grows -/
def wfS (z : Row) : Prop := ∀ k : Nat, (k : Int) < z 98 → (tf z k 4 = 2 → tf z k 2 = 0) ∧ tf z k 2 ≤ tf z k 5
theorem mvC_cell {z : Row} {k : Nat} (ht : wfT1 z k) : isC (mvC z k) := by
  have hc : isC (tf z k 1) := by have := ht.2.1; unfold isC; omega
  have hw : 0 ≤ (if tf z k 0 = 0 then (3 : Int) else 1) ∧ (if tf z k 0 = 0 then (3 : Int) else 1) < 4 := by split <;> decide
  unfold mvC
  generalize (if tf z k 0 = 0 then (3 : Int) else 1) = w at *
  split
  · split
    · rename_i q
      exact ((stT_cell (z := z) hc hw).resolve_left q.1).1
    · exact hc
  · split
    · exact hc
    · split
      · exact hc
      · rename_i q
        exact (nxN_cell hc 4 (by decide)).resolve_left q
theorem nxN_free {z f : Row} {c : Int} : ∀ n : Nat, nxN z f c n = -1 ∨ tAt z (nxN z f c n) = -1 := by
  intro n
  induction n with
  | zero => exact Or.inl rfl
  | succ n ih =>
    unfold nxN
    split
    · rename_i q; exact Or.inr q.2.2.2
    · exact ih
theorem mvC_free {z : Row} {k : Nat} : mvC z k = tf z k 1 ∨ tAt z (mvC z k) = -1 := by
  have hw : 0 ≤ (if tf z k 0 = 0 then (3 : Int) else 1) ∧ (if tf z k 0 = 0 then (3 : Int) else 1) < 4 := by split <;> decide
  unfold mvC
  generalize (if tf z k 0 = 0 then (3 : Int) else 1) = w at *
  split
  · split
    · rename_i q; exact Or.inr q.2
    · exact Or.inl rfl
  · split
    · exact Or.inl rfl
    · split
      · exact Or.inl rfl
      · rename_i q; exact Or.inr ((nxN_free 4).resolve_left q)
theorem marchZ_t {z : Row} {k l g : Nat} (hg : g < 8) : tf (marchZ z k) l g = if l = k ∧ g = 1 then mvC z k else tf z l g := tf_uz (by decide) hg
theorem marchZ_off {z : Row} {k i : Nat} (h : i < 99 ∨ 195 ≤ i) (hk : k < 12) : marchZ z k i = z i := uz_ne z _ (by omega)
theorem marchZ_T {z : Row} {k : Nat} (hk : (k : Int) < z 98) (hn : wfN z) (ht : wfT z) : wfT (marchZ z k) := fun l hl => by
  have hn2 := hn.2
  rw [marchZ_off (Or.inl (by decide)) (by omega)] at hl
  have h := ht l hl
  have hm := mvC_cell (ht k hk)
  unfold isC at hm
  unfold wfT1 at h ⊢
  rw [marchZ_t (by decide), marchZ_t (by decide), marchZ_t (by decide), marchZ_t (by decide), marchZ_t (by decide), marchZ_t (by decide), marchZ_t (by decide), marchZ_t (by decide)]
  rw [if_neg (by omega : ¬ (l = k ∧ 0 = 1)), if_neg (by omega : ¬ (l = k ∧ 2 = 1)), if_neg (by omega : ¬ (l = k ∧ 3 = 1)), if_neg (by omega : ¬ (l = k ∧ 4 = 1)), if_neg (by omega : ¬ (l = k ∧ 5 = 1)), if_neg (by omega : ¬ (l = k ∧ 6 = 1)), if_neg (by omega : ¬ (l = k ∧ 7 = 1))]
  refine ⟨h.1, ?_, h.2.2⟩
  split
  · omega
  · exact h.2.1
theorem marchZ_U {z : Row} {k : Nat} (hk : (k : Int) < z 98) (hn : wfN z) (hu : wfU z) : wfU (marchZ z k) := fun a b ha hb => by
  have hn2 := hn.2
  rw [marchZ_off (Or.inl (by decide)) (by omega)] at ha hb
  rw [marchZ_t (by decide), marchZ_t (by decide), marchZ_t (by decide), marchZ_t (by decide)]
  rw [if_neg (by omega : ¬ (a = k ∧ 4 = 1)), if_neg (by omega : ¬ (b = k ∧ 4 = 1))]
  intro a4 b4 e
  by_cases ea : a = k
  · by_cases eb : b = k
    · rw [ea, eb]
    · rw [if_pos ⟨ea, rfl⟩, if_neg (fun w => eb w.1)] at e
      rcases mvC_free (z := z) (k := k) with m | m
      · exact hu a b ha hb a4 b4 (by rw [ea, ← m]; exact e)
      · exact absurd ⟨b4, e.symm⟩ (tA_none.mp m b (by omega))
  · by_cases eb : b = k
    · rw [if_neg (fun w => ea w.1), if_pos ⟨eb, rfl⟩] at e
      rcases mvC_free (z := z) (k := k) with m | m
      · exact hu a b ha hb a4 b4 (by rw [eb, ← m]; exact e)
      · exact absurd ⟨a4, e⟩ (tA_none.mp m a (by omega))
    · rw [if_neg (fun w => ea w.1), if_neg (fun w => eb w.1)] at e
      exact hu a b ha hb a4 b4 e
