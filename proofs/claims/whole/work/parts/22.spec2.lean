/-! ===== sight ===== -/
abbrev ab (v : Int) : Int := if v < 0 then -v else v
/-- the greater one of the distances across and down -/
abbrev nn (a b : Int) : Int := if ab (b / 12 - a / 12) < ab (b % 12 - a % 12) then ab (b % 12 - a % 12) else ab (b / 12 - a / 12)
/-- the k-th of n places from a on, d off in all -/
def pt (n a d k : Int) : Int := (2 * (n * a + k * d) + n) / (2 * n)
theorem mulb {a b A B : Int} (ha : 0 ≤ a ∧ a ≤ A) (hb : 0 ≤ b ∧ b ≤ B) : 0 ≤ a * b ∧ a * b ≤ A * B :=
  ⟨Int.mul_nonneg ha.1 hb.1, Int.le_trans (Int.mul_le_mul_of_nonneg_right ha.2 hb.1) (Int.mul_le_mul_of_nonneg_left hb.2 (Int.le_trans ha.1 ha.2))⟩
theorem pt_sum {n a d k M : Int} (hk : 0 ≤ k ∧ k ≤ n) (ha : 0 ≤ a ∧ a ≤ M) (hd : 0 ≤ a + d ∧ a + d ≤ M) : 0 ≤ n * a + k * d ∧ n * a + k * d ≤ n * M := by
  have e : n * a + k * d = (n - k) * a + k * (a + d) := by rw [Int.sub_mul, Int.mul_add]; omega
  have e2 : n * M = (n - k) * M + k * M := by rw [Int.sub_mul]; omega
  have h1 : 0 ≤ (n - k) * a := Int.mul_nonneg (by omega) ha.1
  have h2 : 0 ≤ k * (a + d) := Int.mul_nonneg hk.1 hd.1
  have h3 : (n - k) * a ≤ (n - k) * M := Int.mul_le_mul_of_nonneg_left ha.2 (by omega)
  have h4 : k * (a + d) ≤ k * M := Int.mul_le_mul_of_nonneg_left hd.2 hk.1
  omega
theorem pt_b {n a d k M : Int} (hn : 1 ≤ n) (hk : 0 ≤ k ∧ k ≤ n) (ha : 0 ≤ a ∧ a ≤ M) (hd : 0 ≤ a + d ∧ a + d ≤ M) : 0 ≤ pt n a d k ∧ pt n a d k ≤ M := by
  have h := pt_sum hk ha hd
  unfold pt
  refine ⟨Int.ediv_nonneg (by omega) (by omega), Int.le_of_lt_add_one (Int.ediv_lt_of_lt_mul (by omega) ?_)⟩
  have e : (M + 1) * (2 * n) = 2 * (n * M) + 2 * n := by rw [Int.add_mul, Int.mul_left_comm, Int.mul_comm M n]; omega
  omega
theorem pt_sym {n a d k : Int} : pt n (a + d) (-d) (n - k) = pt n a d k := by
  unfold pt
  have e : n * (a + d) + (n - k) * -d = n * a + k * d := by rw [Int.mul_add, Int.sub_mul, Int.mul_neg, Int.mul_neg]; omega
  rw [e]
/-- nothing hides b from a at the k-th place between -/
def seeK (z : Row) (a b k : Int) : Prop := z (12 * pt (nn a b) (a / 12) (b / 12 - a / 12) k + pt (nn a b) (a % 12) (b % 12 - a % 12) k).toNat * nn a b ≤ (z a.toNat + 1) * (nn a b - k) + (z b.toNat + 1) * k
def seeU (z : Row) (a b : Int) : Prop := ∀ k : Int, 1 ≤ k → k < nn a b → seeK z a b k
theorem nn_sym (a b : Int) : nn a b = nn b a := by
  unfold nn ab
  repeat' split
  all_goals omega
theorem nn_b {a b : Int} (ha : isC a) (hb : isC b) : 0 ≤ nn a b ∧ nn a b ≤ 11 := by
  unfold isC at *
  unfold nn ab
  repeat' split
  all_goals omega
theorem seeK_sym {z : Row} {a b k : Int} : seeK z b a (nn a b - k) ↔ seeK z a b k := by
  unfold seeK
  rw [nn_sym b a]
  have e1 : pt (nn a b) (b / 12) (a / 12 - b / 12) (nn a b - k) = pt (nn a b) (a / 12) (b / 12 - a / 12) k := by
    rw [← pt_sym (n := nn a b) (a := a / 12) (d := b / 12 - a / 12) (k := k)]
    rw [show a / 12 + (b / 12 - a / 12) = b / 12 by omega, show -(b / 12 - a / 12) = a / 12 - b / 12 by omega]
  have e2 : pt (nn a b) (b % 12) (a % 12 - b % 12) (nn a b - k) = pt (nn a b) (a % 12) (b % 12 - a % 12) k := by
    rw [← pt_sym (n := nn a b) (a := a % 12) (d := b % 12 - a % 12) (k := k)]
    rw [show a % 12 + (b % 12 - a % 12) = b % 12 by omega, show -(b % 12 - a % 12) = a % 12 - b % 12 by omega]
  rw [e1, e2]
  rw [show nn a b - (nn a b - k) = k by omega]
  rw [Int.add_comm ((z b.toNat + 1) * k)]
theorem seeU_sym {z : Row} {a b : Int} : seeU z a b ↔ seeU z b a := by
  have h : ∀ {a b : Int}, seeU z a b → seeU z b a := fun {a b} h k h1 h2 => by
    rw [nn_sym] at h2
    have := h (nn a b - k) (by omega) (by omega)
    rw [← seeK_sym] at this
    rw [show nn a b - (nn a b - k) = k by omega] at this
    exact this
  exact ⟨h, h⟩
/-- 1 if b is seen from a -/
def seeI (z : Row) (a b : Int) : Int := if (List.range (nn a b).toNat).all (fun j => decide (j = 0 ∨ z (12 * pt (nn a b) (a / 12) (b / 12 - a / 12) j + pt (nn a b) (a % 12) (b % 12 - a % 12) j).toNat * nn a b ≤ (z a.toNat + 1) * (nn a b - j) + (z b.toNat + 1) * j)) then 1 else 0
theorem seeI_is (z : Row) (a b : Int) : (seeU z a b ∧ seeI z a b = 1) ∨ (¬ seeU z a b ∧ seeI z a b = 0) := by
  unfold seeI
  split
  · rename_i h
    refine Or.inl ⟨fun k h1 h2 => ?_, rfl⟩
    have := of_decide_eq_true (List.all_eq_true.mp h k.toNat (List.mem_range.mpr (by omega)))
    rcases this with q | q
    · omega
    · rw [Int.toNat_of_nonneg (by omega)] at q
      exact q
  · rename_i h
    refine Or.inr ⟨fun q => h ?_, rfl⟩
    refine List.all_eq_true.mpr (fun j hj => decide_eq_true ?_)
    have hj := List.mem_range.mp hj
    rcases Nat.eq_zero_or_pos j with z0 | z0
    · exact Or.inl z0
    · exact Or.inr (q j (by omega) (by omega))
theorem seeI_one {z : Row} {a b : Int} (h : seeU z a b) : seeI z a b = 1 := by rcases seeI_is z a b with q | q; exact q.2; exact absurd h q.1
theorem seeI_zero {z : Row} {a b : Int} (h : ¬ seeU z a b) : seeI z a b = 0 := by rcases seeI_is z a b with q | q; exact absurd q.1 h; exact q.2
theorem seeI_sym (z : Row) (a b : Int) : seeI z a b = seeI z b a := by
  rcases seeI_is z a b with q | q
  · rw [q.2, seeI_one (seeU_sym.mp q.1)]
  · rw [q.2, seeI_zero (fun w => q.1 (seeU_sym.mp w))]
/-- how many of the first n cells are seen -/
def sfN (z : Row) (a : Int) : Nat → Int
  | 0 => 0
  | k + 1 => sfN z a k + seeI z a k
theorem sfN_b (z : Row) (a : Int) : ∀ n : Nat, 0 ≤ sfN z a n ∧ sfN z a n ≤ n := by
  intro n
  induction n with
  | zero =>
    show 0 ≤ (0 : Int) ∧ (0 : Int) ≤ ((0 : Nat) : Int)
    omega
  | succ k ih =>
    unfold sfN
    rcases seeI_is z a k with q | q
    · rw [q.2]; omega
    · rw [q.2]; omega
/-- the cell to which one can step, -1 -/
def stT (z : Row) (c d : Int) : Int := if nb c d ≠ -1 ∧ clm z c (nb c d) then nb c d else -1
theorem stT_cell {z : Row} {c d : Int} (hc : isC c) (hd : 0 ≤ d ∧ d < 4) : stT z c d = -1 ∨ (isC (stT z c d) ∧ stT z c d = nb c d ∧ clm z c (stT z c d)) := by
  unfold stT
  split
  · rename_i h
    exact Or.inr ⟨(nb_cell hc hd).resolve_left h.1, rfl, h.2⟩
  · exact Or.inl rfl
