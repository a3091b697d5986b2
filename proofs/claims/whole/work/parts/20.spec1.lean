/-! ===== the rules of the war, over one row of numbers z: heights 0..95, generals 96, 97, how many troops 98, troop k's figure f at 99 + 8 k + f, how many orders 195, order i's figure f at 196 + 4 i + f, turn 316, given 317, missed 318, lost 319, 320 ===== -/
abbrev Row : Type := Nat → Int
abbrev tf (z : Row) (k f : Nat) : Int := z (99 + 8 * k + f)
/-- heights -/
def wfH (z : Row) : Prop := ∀ j : Nat, j < 96 → 0 ≤ z j ∧ z j ≤ 9
def wfN (z : Row) : Prop := 0 ≤ z 98 ∧ z 98 ≤ 12
/-- each troop's figures -/
def wfT1 (z : Row) (k : Nat) : Prop := (0 ≤ tf z k 0 ∧ tf z k 0 ≤ 1) ∧ (0 ≤ tf z k 1 ∧ tf z k 1 ≤ 95) ∧ (0 ≤ tf z k 2 ∧ tf z k 2 ≤ 20) ∧ (0 ≤ tf z k 3 ∧ tf z k 3 ≤ 95) ∧ (0 ≤ tf z k 4 ∧ tf z k 4 ≤ 2) ∧ (1 ≤ tf z k 5 ∧ tf z k 5 ≤ 20) ∧ (0 ≤ tf z k 6 ∧ tf z k 6 ≤ 20) ∧ 0 ≤ tf z k 7
def wfT (z : Row) : Prop := ∀ k : Nat, (k : Int) < z 98 → wfT1 z k
/-- two troops that are not gone are never in one cell -/
def wfU (z : Row) : Prop := ∀ k l : Nat, (k : Int) < z 98 → (l : Int) < z 98 → tf z k 4 ≠ 2 → tf z l 4 ≠ 2 → tf z k 1 = tf z l 1 → k = l
def isC (c : Int) : Prop := 0 ≤ c ∧ c < 96
theorem nb_cell {c d : Int} (hc : isC c) (hd : 0 ≤ d ∧ d < 4) : nb c d = -1 ∨ isC (nb c d) := by
  unfold isC at *
  unfold nb
  repeat' split
  all_goals omega
/-- one can step from a cell to a cell -/
abbrev clm (z : Row) (a b : Int) : Prop := z b.toNat - z a.toNat ≤ 2 ∧ z a.toNat - z b.toNat ≤ 2
theorem clm_symm {z : Row} {a b : Int} (h : clm z a b) : clm z b a := ⟨h.2, h.1⟩
/-- the neighbour to which one can step -/
def stp (z : Row) (c d t : Int) : Prop := t = nb c d ∧ t ≠ -1 ∧ clm z c t
/-- the troop in a cell that is not gone, the last one of the first n; -1 -/
def tA (z : Row) (c : Int) : Nat → Int
  | 0 => -1
  | k + 1 => if tf z k 4 ≠ 2 ∧ tf z k 1 = c then (k : Int) else tA z c k
abbrev tAt (z : Row) (c : Int) : Int := tA z c (z 98).toNat
theorem tA_lt (z : Row) (c : Int) : ∀ n : Nat, -1 ≤ tA z c n ∧ tA z c n < n := by
  intro n
  induction n with
  | zero =>
    show -1 ≤ (-1 : Int) ∧ (-1 : Int) < ((0 : Nat) : Int)
    omega
  | succ k ih =>
    unfold tA
    split <;> omega
theorem tA_none {z : Row} {c : Int} : ∀ {n : Nat}, tA z c n = -1 ↔ ∀ k : Nat, k < n → ¬ (tf z k 4 ≠ 2 ∧ tf z k 1 = c) := by
  intro n
  induction n with
  | zero => exact ⟨fun _ k hk => absurd hk (Nat.not_lt_zero _), fun _ => rfl⟩
  | succ n ih =>
    unfold tA
    split
    · rename_i h
      exact ⟨fun q => by omega, fun q => absurd h (q n (Nat.lt_succ_self n))⟩
    · rename_i h
      rw [ih]
      refine ⟨fun q k hk => ?_, fun q k hk => q k (by omega)⟩
      rcases Nat.lt_or_ge k n with z1 | z1
      · exact q k z1
      · rw [show k = n by omega]; exact h
theorem tA_some {z : Row} {c : Int} : ∀ {n : Nat}, tA z c n ≠ -1 → ∃ k : Nat, k < n ∧ tA z c n = k ∧ tf z k 4 ≠ 2 ∧ tf z k 1 = c := by
  intro n
  induction n with
  | zero => intro h; exact absurd rfl h
  | succ n ih =>
    unfold tA
    split
    · rename_i h
      intro _
      exact ⟨n, Nat.lt_succ_self n, rfl, h.1, h.2⟩
    · intro h
      obtain ⟨k, h1, h2, h3⟩ := ih h
      exact ⟨k, by omega, h2, h3⟩
/-- where it is unique it is any that is there -/
theorem tA_uniq {z : Row} (hu : wfU z) {c : Int} {n k : Nat} (hn : (n : Int) ≤ z 98) (hk : k < n) (h4 : tf z k 4 ≠ 2) (h1 : tf z k 1 = c) : tA z c n = k := by
  have hne : tA z c n ≠ -1 := fun q => tA_none.mp q k hk ⟨h4, h1⟩
  obtain ⟨l, hl, e, h5, h6⟩ := tA_some hne
  have := hu k l (by omega) (by omega) h4 h5 (by rw [h1, h6])
  rw [e, this]
/-- how many neighbours one can step to, of the first n ways -/
def exN (z : Row) (c : Int) : Nat → Int
  | 0 => 0
  | d + 1 => exN z c d + (if nb c d ≠ -1 ∧ clm z c (nb c d) then 1 else 0)
theorem exN_b (z : Row) (c : Int) : ∀ n : Nat, 0 ≤ exN z c n ∧ exN z c n ≤ n := by
  intro n
  induction n with
  | zero =>
    show 0 ≤ (0 : Int) ∧ (0 : Int) ≤ ((0 : Nat) : Int)
    omega
  | succ k ih => unfold exN; split <;> omega
