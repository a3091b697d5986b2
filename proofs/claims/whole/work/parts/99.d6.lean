/-! ===== the law's wrappers: what is thrown is a code ===== -/
theorem af_T {M : amM} {Q : amR → amH → Prop} {S : amS} {pc : Nat} {K : amK1} {J : amJ1} {ls : List (Option amV)} {r : List amV} {h : amH} {j t' : Nat} {I1 : Nat → Nat → Int} {R1 : Nat → Nat → Option Nat} {L1 : Nat → Nat → Int64} {S1 : List (Nat × Nat)} {x1 c1 t1 : Nat} (h1 : amCatch j pc (sh M.1) (amHk M.1) = some t') (hk : ∀ q : Nat, J t' ls [aO q] (I1, R1, L1, S1, x1, h.2.2.2.2.2.1 - sc S, h.2.2.2.2.2.2 - st S)) : amAf M Q S pc K J ls r h (Sum.inr j) (I1, R1, L1, S1, x1, c1, t1) := by
  cases e : sh M.1 with
  | nil =>
    rw [e] at h1
    exact absurd h1 (by simp [amCatch])
  | cons a l =>
    rw [e] at h1
    simp only [amAf, e, h1]
    exact hk
