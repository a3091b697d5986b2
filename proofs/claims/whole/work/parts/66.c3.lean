/-! ===== the class: ways ===== -/
def wp (p : Nat) : Prop := p = 351 ∨ p = 357
theorem sp0 {p : Nat} (h : wp p) : SH[p]? = some (4, 0) := by rcases h with h | h <;> subst h <;> decide +kernel
theorem sp1 {p : Nat} (h : wp p) : SH[p + 1]? = some (20, 96) := by rcases h with h | h <;> subst h <;> decide +kernel
theorem sp2 {p : Nat} (h : wp p) : SH[p + 2]? = some (20, 96) := by rcases h with h | h <;> subst h <;> decide +kernel
theorem sp3 {p : Nat} (h : wp p) : SH[p + 3]? = some (20, 96) := by rcases h with h | h <;> subst h <;> decide +kernel
def RP (R : Nat → Nat → Option Nat) (p : Nat) : Prop := R p 0 = some (p + 1) ∧ R p 1 = some (p + 2) ∧ R p 2 = some (p + 3)
theorem RP.st {R : Nat → Nat → Option Nat} {p : Nat} (h : RP R p) : R p 0 = some (p + 1) := h.1
theorem RP.qu {R : Nat → Nat → Option Nat} {p : Nat} (h : RP R p) : R p 1 = some (p + 2) := h.2.1
theorem RP.ta {R : Nat → Nat → Option Nat} {p : Nat} (h : RP R p) : R p 2 = some (p + 3) := h.2.2
theorem wb_le {b : Nat} (h : wb b) : 1 ≤ b ∧ b ≤ 297 := by rcases h with h | h | h | h | h | h | h <;> omega
theorem wp_le {p : Nat} (h : wp p) : 351 ≤ p ∧ p ≤ 357 := by rcases h with h | h <;> omega
/-- the rows of a search -/
def p3 (I : Nat → Nat → Int) (p : Nat) (f q : Row) : Nat → Nat → Int := fun a => if a = p + 1 then f else if a = p + 2 then q else I a
theorem p3_f (I : Nat → Nat → Int) (p : Nat) (f q : Row) : p3 I p f q (p + 1) = f := if_pos rfl
theorem p3_q (I : Nat → Nat → Int) (p : Nat) (f q : Row) : p3 I p f q (p + 2) = q := by
  unfold p3
  rw [if_neg (by omega), if_pos rfl]
theorem p3_o (I : Nat → Nat → Int) (p : Nat) (f q : Row) {a : Nat} (h : a ≠ p + 1 ∧ a ≠ p + 2) : p3 I p f q a = I a := by
  unfold p3
  rw [if_neg h.1, if_neg h.2]
theorem p3_self (I : Nat → Nat → Int) (p : Nat) : p3 I p (I (p + 1)) (I (p + 2)) = I := funext (fun a => by
  unfold p3
  split
  · rename_i h; rw [h]
  · split
    · rename_i h; rw [h]
    · rfl)
theorem u2_p3_f (I : Nat → Nat → Int) (p : Nat) (f q : Row) (k : Nat) (v : Int) : u2 (p3 I p f q) (p + 1) k v = p3 I p (uz f k v) q := funext (fun a => by
  by_cases h : a = p + 1
  · rw [h, u2_at, p3_f, p3_f]
  · rw [u2_off _ _ _ h]; unfold p3; rw [if_neg h, if_neg h])
theorem u2_p3_q (I : Nat → Nat → Int) (p : Nat) (f q : Row) (k : Nat) (v : Int) : u2 (p3 I p f q) (p + 2) k v = p3 I p f (uz q k v) := funext (fun a => by
  by_cases h : a = p + 2
  · rw [h, u2_at, p3_q, p3_q]
  · rw [u2_off _ _ _ h]; unfold p3; rw [if_neg h, if_neg h])
theorem u2_p3_o (I : Nat → Nat → Int) (p : Nat) (f q : Row) {b : Nat} (k : Nat) (v : Int) (hb : b ≠ p + 1 ∧ b ≠ p + 2) : u2 (p3 I p f q) b k v = p3 (u2 I b k v) p f q := funext (fun a => by
  by_cases h : a = b
  · rw [h, u2_at, p3_o _ _ _ _ hb, p3_o _ _ _ _ hb, u2_at]
  · rw [u2_off _ _ _ h]; unfold p3; rw [u2_off _ _ _ h])
theorem HV_p3 {I : Nat → Nat → Int} {b p : Nat} {z : Row} (hv : HV I b z) (hB : wb b) (hP : wp p) (f q : Row) : HV (p3 I p f q) b z := fun j hj => by
  have h1 := wb_le hB
  have h2 := wp_le hP
  rw [p3_o _ _ _ _ (by omega)]
  exact hv j hj
def flN (r : Row) (v : Int) : Nat → Row
  | 0 => r
  | n + 1 => uz (flN r v n) n v
theorem flN_s (r : Row) (v : Int) (n : Nat) : flN r v (n + 1) = uz (flN r v n) n v := rfl
theorem flN_at (r : Row) (v : Int) : ∀ n j : Nat, flN r v n j = if j < n then v else r j := by
  intro n
  induction n with
  | zero => intro j; rfl
  | succ n ih =>
    intro j
    rw [flN_s]
    by_cases e : j = n
    · rw [e, uz_same, if_pos (by omega)]
    · rw [uz_ne _ _ e, ih]
      by_cases c : j < n
      · rw [if_pos c, if_pos (by omega)]
      · rw [if_neg c, if_neg (by omega)]
theorem L_fill {G : amG} {I : Nat → Nat → Int} {R : Nat → Nat → Option Nat} {L : Nat → Nat → Int64} {x : Nat} {Q : amR → amH → Prop} (hG : amG0 G) {a m : Nat} {v : Int} {r : Row} (hA : SH[a]? = some (20, m)) (hm : m ≤ 1000) (hQ : Q (Sum.inl none) (pr I a (flN r v m), R, L, SH, x, 0, 0)) :
    ∀ (n : Nat) (j : Int), (0 ≤ j ∧ j ≤ m ∧ (m : Int) - j < n) → X G mJ7_fill_53178 Q 5 [some (aR (some a)), some (aI v), some (aI j), some (aI m)] [] (pr I a (flN r v j.toNat), R, L, SH, x, 0, 0) := by
  intro n
  induction n with
  | zero =>
    intros
    exfalso; omega
  | succ n ih =>
    intro j h1
    have hs := flN_s r v j.toNat
    refine B_J7_fill_53178_5 ?_
    try dsimp only
    try simp only [u2_pr]
    refine ⟨fun c7_0 => ?_, fun c7_0 => ?_⟩
    · refine B_J7_fill_53178_20 ?_
      try dsimp only
      try simp only [u2_pr]
      refine ⟨rfl, ?_⟩
      have e : j.toNat = m := by omega
      rw [e]
      exact hQ
    · refine ⟨_, hA, ⟨by omega, by omega⟩, ?_⟩
      try simp only [u2_pr]
      refine ⟨by (refine ⟨?_, ?_⟩ <;> omega), ?_⟩
      have e := ih (j + 1) (by omega)
      rw [show (j + 1).toNat = j.toNat + 1 by omega, hs] at e
      exact e
theorem D_fill {G : amG} {I : Nat → Nat → Int} {R : Nat → Nat → Option Nat} {L : Nat → Nat → Int64} {x c t : Nat} {Q : amR → amH → Prop} (hG : amG0 G) {a m : Nat} {v : Int} (hA : SH[a]? = some (20, m)) (hm : m ≤ 1000) (hQ : Q (Sum.inl none) (pr I a (flN (I a) v m), R, L, SH, x, 0, 0)) : CT G sJ7_fill_53178 [aR (some a), aI v] (I, R, L, SH, x, c, t) Q := by
  refine CT_of ok_J7_fill_53178 hG (Nat.le_of_ble_eq_true rfl) ?_
  show X G mJ7_fill_53178 Q 0 _ [] (I, R, L, SH, x, 0, 0)
  refine B_J7_fill_53178_0 ?_
  try dsimp only
  refine ⟨_, _, hA, ⟨by decide, by decide, by first | decide | omega⟩, ?_⟩
  have e0 : I = pr I a (flN (I a) v (0 : Int).toNat) := (pr_self I a).symm
  have e := L_fill (L := L) (R := R) (x := x) (r := I a) hG hA hm hQ (m + 1) 0 (by omega)
  rw [← e0] at e
  exact e
theorem D_openAll {G : amG} {I : Nat → Nat → Int} {R : Nat → Nat → Option Nat} {L : Nat → Nat → Int64} {x c t : Nat} {Q : amR → amH → Prop} (hG : amG0 G) {p : Nat} (hP : wp p) (hRP : RP R p) (hQ : Q (Sum.inl none) (pr I (p + 3) (flN (I (p + 3)) 0 96), R, L, SH, x, 0, 0)) : CT G sX4_openAll [aR (some p)] (I, R, L, SH, x, c, t) Q := by
  refine CT_of ok_X4_openAll hG (Nat.le_of_ble_eq_true rfl) ?_
  show X G mX4_openAll Q 0 _ [] (I, R, L, SH, x, 0, 0)
  refine B_X4_openAll_0 ?_
  try dsimp only
  refine ⟨sp0 hP, _, hRP.ta, ?_⟩
  refine ⟨⟨Nat.zero_le _, Nat.zero_le _, Nat.le_of_ble_eq_true rfl⟩, trivial, ?_⟩
  refine D_fill hG (sp3 hP) (by decide) ?_
  refine af_N0 rfl rfl rfl ?_
  try dsimp only
  refine B_X4_openAll_8 ?_
  try dsimp only
  refine ⟨rfl, ?_⟩
  exact hQ
theorem D_isOpen {G : amG} {I : Nat → Nat → Int} {R : Nat → Nat → Option Nat} {L : Nat → Nat → Int64} {x c t : Nat} {Q : amR → amH → Prop} (hG : amG0 G) {p : Nat} (hP : wp p) (hRP : RP R p) {v : Int} (hv : isC v) (hQ : ∀ r : Int, ((I (p + 1) v.toNat = -1 ∧ I (p + 3) v.toNat = 0) ∧ r = 1) ∨ (¬ (I (p + 1) v.toNat = -1 ∧ I (p + 3) v.toNat = 0) ∧ r = 0) → Q (Sum.inl (some (aI r))) (I, R, L, SH, x, 0, 0)) : CT G sX4_isOpen [aR (some p), aI v] (I, R, L, SH, x, c, t) Q := by
  refine CT_of ok_X4_isOpen hG (Nat.le_of_ble_eq_true rfl) ?_
  show X G mX4_isOpen Q 0 _ [] (I, R, L, SH, x, 0, 0)
  unfold isC at hv
  refine B_X4_isOpen_0 ?_
  try dsimp only
  refine ⟨sp0 hP, _, hRP.st, ?_⟩
  refine ⟨_, sp1 hP, ⟨by omega, by omega⟩, ?_⟩
  refine ⟨fun c7_0 => ?_, fun c7_0 => ?_⟩
  · refine B_X4_isOpen_23 ?_
    try dsimp only
    refine B_X4_isOpen_24 ?_
    try dsimp only
    refine ⟨by first | exact Or.inl rfl | exact Or.inr rfl | exact Or.inl trivial | exact Or.inr trivial | omega, ?_⟩
    exact hQ _ (by omega)
  · refine ⟨sp0 hP, _, hRP.ta, ?_⟩
    refine ⟨_, sp3 hP, ⟨by omega, by omega⟩, ?_⟩
    refine ⟨fun c16_0 => ?_, fun c16_0 => ?_⟩
    · refine B_X4_isOpen_23 ?_
      try dsimp only
      refine B_X4_isOpen_24 ?_
      try dsimp only
      refine ⟨by first | exact Or.inl rfl | exact Or.inr rfl | exact Or.inl trivial | exact Or.inr trivial | omega, ?_⟩
      exact hQ _ (by omega)
    · refine B_X4_isOpen_24 ?_
      try dsimp only
      refine ⟨by first | exact Or.inl rfl | exact Or.inr rfl | exact Or.inl trivial | exact Or.inr trivial | omega, ?_⟩
      exact hQ _ (by omega)
