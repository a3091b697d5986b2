theorem wfU_of {y z : Row} (h98 : y 98 = z 98) (h1 : ∀ l : Nat, (l : Int) < z 98 → tf y l 1 = tf z l 1) (h4 : ∀ l : Nat, (l : Int) < z 98 → tf y l 4 ≠ 2 → tf z l 4 ≠ 2) (hu : wfU z) : wfU y := fun a b ha hb a4 b4 e => by
  rw [h98] at ha hb
  rw [h1 a ha, h1 b hb] at e
  exact hu a b ha hb (h4 a ha a4) (h4 b hb b4) e
theorem settZ_off {z : Row} {k i : Nat} (h : i < 99 ∨ 195 ≤ i) (hk : k < 12) : settZ z k i = z i := by
  unfold settZ
  split
  · exact uz_ne z _ (by omega)
  · split
    · rw [uz_ne _ _ (by omega), uz_ne _ _ (by omega)]
    · rfl
theorem settZ_t {z : Row} {k l g : Nat} (hg : g < 8) (h3 : g ≠ 3) (h4 : g ≠ 4) : tf (settZ z k) l g = tf z l g := by
  unfold settZ
  split
  · rw [tf_uz (by decide) hg, if_neg (fun w => h4 w.2)]
  · split
    · rw [tf_uz (by decide) hg, if_neg (fun w => h3 w.2), tf_uz (by decide) hg, if_neg (fun w => h4 w.2)]
    · rfl
theorem settZ_4 {z : Row} {k l : Nat} : tf (settZ z k) l 4 = tf z l 4 ∨ (l = k ∧ (tf z l 4 = 0 ∨ tf z l 4 = 1) ∧ (tf (settZ z k) l 4 = 0 ∨ tf (settZ z k) l 4 = 1)) := by
  unfold settZ
  split
  · rename_i q
    rw [tf_uz (by decide) (by decide)]
    split
    · rename_i e; exact Or.inr ⟨e.1, Or.inl (by rw [e.1]; exact q.1), Or.inr rfl⟩
    · exact Or.inl rfl
  · split
    · rename_i q
      rw [tf_uz (by decide) (by decide), if_neg (by omega), tf_uz (by decide) (by decide)]
      split
      · rename_i e; exact Or.inr ⟨e.1, Or.inr (by rw [e.1]; exact q.1), Or.inl rfl⟩
      · exact Or.inl rfl
    · exact Or.inl rfl
theorem settZ_3 {z : Row} {k l : Nat} : tf (settZ z k) l 3 = tf z l 3 ∨ (l = k ∧ tf (settZ z k) l 3 = tf z l 1) := by
  unfold settZ
  split
  · rw [tf_uz (by decide) (by decide), if_neg (by omega)]; exact Or.inl rfl
  · split
    · rw [tf_uz (by decide) (by decide)]
      split
      · rename_i e; exact Or.inr ⟨e.1, by rw [e.1]⟩
      · rw [tf_uz (by decide) (by decide), if_neg (by omega)]; exact Or.inl rfl
    · exact Or.inl rfl
theorem settZ_T {z : Row} {k : Nat} (hk : (k : Int) < z 98) (hn : wfN z) (ht : wfT z) : wfT (settZ z k) := fun l hl => by
  have hn2 := hn.2
  rw [settZ_off (Or.inl (by decide)) (by omega)] at hl
  have h := ht l hl
  have h3 := settZ_3 (z := z) (k := k) (l := l)
  have h4 := settZ_4 (z := z) (k := k) (l := l)
  unfold wfT1 at h ⊢
  rw [settZ_t (g := 0) (by decide) (by decide) (by decide), settZ_t (g := 1) (by decide) (by decide) (by decide), settZ_t (g := 2) (by decide) (by decide) (by decide), settZ_t (g := 5) (by decide) (by decide) (by decide), settZ_t (g := 6) (by decide) (by decide) (by decide), settZ_t (g := 7) (by decide) (by decide) (by decide)]
  omega
theorem settZ_U {z : Row} {k : Nat} (hk : (k : Int) < z 98) (hn : wfN z) (hu : wfU z) : wfU (settZ z k) := by
  have hn2 := hn.2
  refine wfU_of (settZ_off (Or.inl (by decide)) (by omega)) (fun l hl => settZ_t (by decide) (by decide) (by decide)) (fun l hl h => ?_) hu
  have h4 := settZ_4 (z := z) (k := k) (l := l)
  omega
