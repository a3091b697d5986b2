/-! ===== shares: what is told of their bits by trying them all ===== -/
def shD (a b : Nat) : UInt64 := FP.ddiv (FP.i2d (Int32.ofInt a)) (FP.i2d (Int32.ofInt b))
/-- a share is 0, or a normal number from 1/256 to 1 -/
def okD1 (a b : Nat) : Bool := if a = 0 then Nat.beq (shD a b).toNat 0 else Nat.ble 4571153621781053440 (shD a b).toNat && Nat.ble (shD a b).toNat 4607182418800017408
def okR (b n : Nat) : Bool := (List.range n).all (fun j => (List.range (b + j + 1)).all (fun a => okD1 a (b + j)))
theorem okS_1 : okR 1 100 = true := by decide +kernel
theorem okS_2 : okR 101 60 = true := by decide +kernel
theorem okS_3 : okR 161 40 = true := by decide +kernel
theorem okS_4 : okR 201 40 = true := by decide +kernel
theorem okR_at {b n : Nat} (h : okR b n = true) {a c : Nat} (h1 : b ≤ c) (h2 : c < b + n) (h3 : a ≤ c) : okD1 a c = true := by
  have h4 := List.all_eq_true.mp h (c - b) (List.mem_range.mpr (by omega))
  have h5 := List.all_eq_true.mp h4 a (List.mem_range.mpr (by omega))
  rw [show b + (c - b) = c by omega] at h5
  exact h5
theorem shD_ok {a b : Nat} (h1 : 1 ≤ b) (h2 : b ≤ 240) (h3 : a ≤ b) : ((a = 0 ∧ (shD a b).toNat = 0) ∨ (0 < a ∧ 4571153621781053440 ≤ (shD a b).toNat)) ∧ (shD a b).toNat ≤ 4607182418800017408 := by
  have h : okD1 a b = true := by
    rcases (by omega : b < 101 ∨ (101 ≤ b ∧ b < 161) ∨ (161 ≤ b ∧ b < 201) ∨ 201 ≤ b) with q | q | q | q
    · exact okR_at okS_1 h1 (by omega) h3
    · exact okR_at okS_2 q.1 (by omega) h3
    · exact okR_at okS_3 q.1 (by omega) h3
    · exact okR_at okS_4 q (by omega) h3
  unfold okD1 at h
  split at h
  · rename_i q
    have := Nat.eq_of_beq_eq_true h
    exact ⟨Or.inl ⟨q, this⟩, by omega⟩
  · rename_i q
    have h := Bool.and_eq_true_iff.mp h
    exact ⟨Or.inr ⟨by omega, Nat.le_of_ble_eq_true h.1⟩, Nat.le_of_ble_eq_true h.2⟩
theorem vf_small {x : UInt64} (h : x.toNat ≤ 4607182418800017408) : vf_n64 x := by
  unfold vf_n64
  rw [UInt64.le_iff_toNat_le, UInt64.toNat_and]
  exact Nat.le_trans Nat.and_le_left (Nat.le_trans h (by decide))
/-- it is no NaN -/
theorem cmp_self {x : UInt64} (h : x.toNat ≤ 4607182418800017408) : FP.dcmp x x = some Ordering.eq := by
  show FP.Core.order (FP.Core.decode FP.Core.b64 x.toNat) (FP.Core.decode FP.Core.b64 x.toNat) = _
  have ht : FP.Core.b64.tails = 4503599627370496 := by decide
  have he : FP.Core.b64.exps = 2048 := by decide
  have hE : ¬ FP.Core.fieldE FP.Core.b64 x.toNat = FP.Core.b64.exps - 1 := by
    unfold FP.Core.fieldE
    rw [ht, he]
    omega
  have hd : ∃ (s : Bool) (c : Nat) (q : Int), FP.Core.decode FP.Core.b64 x.toNat = .fin s c q := by
    unfold FP.Core.decode
    rw [if_neg hE]
    split
    · exact ⟨_, _, _, rfl⟩
    · exact ⟨_, _, _, rfl⟩
  obtain ⟨s, c, q, e⟩ := hd
  rw [e]
  show some (compare _ _) = _
  rw [Int.compare_eq_eq.mpr rfl]
def mul1B (n : Nat) : Bool := (List.range n).all (fun a => decide (FP.dmul FP.dconst1 (FP.i2d (Int32.ofInt a)) = FP.i2d (Int32.ofInt a)) && decide (FP.i2d (Int32.ofInt a) &&& 0x7fffffffffffffff ≤ 0x7ff0000000000000))
theorem mul1_all : mul1B 241 = true := by decide +kernel
theorem mul1 {a : Nat} (h : a ≤ 240) : FP.dmul FP.dconst1 (FP.i2d (Int32.ofInt a)) = FP.i2d (Int32.ofInt a) ∧ vf_n64 (FP.i2d (Int32.ofInt a)) := by
  have h := List.all_eq_true.mp mul1_all a (List.mem_range.mpr (by omega))
  have h := Bool.and_eq_true_iff.mp h
  exact ⟨of_decide_eq_true h.1, by unfold vf_n64; exact of_decide_eq_true h.2⟩
