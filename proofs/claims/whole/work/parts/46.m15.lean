/-! ===== the model: rows are kept and taken back ===== -/
def pr (I : Nat → Nat → Int) (a : Nat) (r : Row) : Nat → Nat → Int := fun b => if b = a then r else I b
theorem pr_at (I : Nat → Nat → Int) (a : Nat) (r : Row) : pr I a r a = r := if_pos rfl
theorem pr_off (I : Nat → Nat → Int) {a b : Nat} (r : Row) (h : b ≠ a) : pr I a r b = I b := if_neg h
theorem pr_self (I : Nat → Nat → Int) (a : Nat) : pr I a (I a) = I := funext (fun b => by
  unfold pr
  split
  · rename_i h; rw [h]
  · rfl)
theorem u2_pr (I : Nat → Nat → Int) (a : Nat) (r : Row) (k : Nat) (v : Int) : u2 (pr I a r) a k v = pr I a (uz r k v) := funext (fun b => by
  by_cases h : b = a
  · rw [h, u2_at, pr_at, pr_at]
  · rw [u2_off _ _ _ h, pr_off _ _ h, pr_off _ _ h])
theorem pr_u2 (I : Nat → Nat → Int) {a b : Nat} (r : Row) (k : Nat) (v : Int) (h : a ≠ b) : pr (u2 I a k v) b r = u2 (pr I b r) a k v := funext (fun c => by
  by_cases hb : c = b
  · rw [hb, pr_at, u2_off _ _ _ (fun w => h w.symm), pr_at]
  · rw [pr_off _ _ hb]
    by_cases ha : c = a
    · rw [ha, u2_at, u2_at, pr_off _ _ h]
    · rw [u2_off _ _ _ ha, u2_off _ _ _ ha, pr_off _ _ hb])
theorem uz_uz (f : Row) (k : Nat) (v w : Int) : uz (uz f k v) k w = uz f k w := funext (fun j => by
  unfold uz
  split <;> rfl)
theorem u2_u2 (I : Nat → Nat → Int) (a k : Nat) (v w : Int) : u2 (u2 I a k v) a k w = u2 I a k w := funext (fun b => by
  by_cases h : b = a
  · rw [h, u2_at, u2_at, u2_at, uz_uz]
  · rw [u2_off _ _ _ h, u2_off _ _ _ h, u2_off _ _ _ h])
/-- all but the oldest one move up -/
def shS (s : Row) : Nat → Row
  | 0 => s
  | n + 1 => uz (shS s n) n (shS s n (321 + n))
theorem shS_s (s : Row) (n : Nat) : shS s (n + 1) = uz (shS s n) n (shS s n (321 + n)) := rfl
theorem shS_at (s : Row) : ∀ n j : Nat, shS s n j = if j < n then s (321 + j) else s j := by
  intro n
  induction n with
  | zero => intro j; rfl
  | succ n ih =>
    intro j
    rw [shS_s]
    by_cases e : j = n
    · rw [e, uz_same, ih, if_neg (by omega), if_pos (by omega)]
    · rw [uz_ne _ _ e, ih]
      by_cases c : j < n
      · rw [if_pos c, if_pos (by omega)]
      · rw [if_neg c, if_neg (by omega)]
/-- the first numbers of z are put behind b -/
def cpS (s z : Row) (b : Nat) : Nat → Row
  | 0 => s
  | n + 1 => uz (cpS s z b n) (b + n) (z n)
theorem cpS_s (s z : Row) (b n : Nat) : cpS s z b (n + 1) = uz (cpS s z b n) (b + n) (z n) := rfl
theorem cpS_at (s z : Row) (b : Nat) : ∀ n j : Nat, cpS s z b n j = if b ≤ j ∧ j < b + n then z (j - b) else s j := by
  intro n
  induction n with
  | zero => intro j; rw [if_neg (by omega)]; rfl
  | succ n ih =>
    intro j
    rw [cpS_s]
    by_cases e : j = b + n
    · rw [e, uz_same, if_pos (by omega), Nat.add_sub_cancel_left]
    · rw [uz_ne _ _ e, ih]
      by_cases c : b ≤ j ∧ j < b + n
      · rw [if_pos c, if_pos (by omega)]
      · rw [if_neg c, if_neg (by omega)]
/-- and taken from there -/
def tkZ (z a : Row) (b : Nat) : Nat → Row
  | 0 => z
  | n + 1 => uz (tkZ z a b n) n (a (b + n))
theorem tkZ_s (z a : Row) (b n : Nat) : tkZ z a b (n + 1) = uz (tkZ z a b n) n (a (b + n)) := rfl
theorem tkZ_at (z a : Row) (b : Nat) : ∀ n j : Nat, tkZ z a b n j = if j < n then a (b + j) else z j := by
  intro n
  induction n with
  | zero => intro j; rfl
  | succ n ih =>
    intro j
    rw [tkZ_s]
    by_cases e : j = n
    · rw [e, uz_same, if_pos (by omega)]
    · rw [uz_ne _ _ e, ih]
      by_cases c : j < n
      · rw [if_pos c, if_pos (by omega)]
      · rw [if_neg c, if_neg (by omega)]
/-- what save lays -/
def svS (s z : Row) (n : Int) : Row := cpS (if n = 5 then shS s 1284 else s) z (321 * (if n = 5 then 4 else n)).toNat 321
def svN (n : Int) : Int := if n = 5 then 5 else n + 1
theorem L_saveA {G : amG} {I : Nat → Nat → Int} {R : Nat → Nat → Option Nat} {L : Nat → Nat → Int64} {x : Nat} {Q : amR → amH → Prop} (hG : amG0 G) (hR : RM R) {z f q s : Row} (hK : X G mX10_save Q 41 [some (aR (some 361)), some (aI 1605)] [] (m3 (pr I 363 (shS s 1284)) z f q, R, L, SH, x, 0, 0)) :
    ∀ (n : Nat) (j : Int), 321 ≤ j ∧ j ≤ 1605 ∧ 1605 - j < n → X G mX10_save Q 12 [some (aR (some 361)), some (aI j)] [] (m3 (pr I 363 (shS s (j - 321).toNat)) z f q, R, L, SH, x, 0, 0) := by
  intro n
  induction n with
  | zero =>
    intros
    exfalso; omega
  | succ n ih =>
    intro j h1
    have hs := shS_s s (j - 321).toNat
    have e1 : j.toNat = 321 + (j - 321).toNat := by omega
    refine B_X10_save_12 ?_
    try dsimp only
    try simp (disch := omega) only [m3_z, m3_f, m3_q, m3_o, u2_m3_z, u2_m3_f, u2_m3_q, u2_m3_o, pr_at, pr_off, u2_pr, u2_at, u2_off, uz_same, uz_ne, Int.reduceToNat]
    refine ⟨fun c16_0 => ?_, fun c16_0 => ?_⟩
    · have e : j = 1605 := by omega
      rw [e]
      exact hK
    · refine ⟨sh361, _, hR.saved, ?_⟩
      refine ⟨by (refine ⟨?_, ?_⟩ <;> omega), ?_⟩
      refine ⟨sh361, _, hR.saved, ?_⟩
      refine ⟨_, sh363, ⟨by omega, by omega⟩, ?_⟩
      try simp (disch := omega) only [m3_z, m3_f, m3_q, m3_o, u2_m3_z, u2_m3_f, u2_m3_q, u2_m3_o, pr_at, pr_off, u2_pr, u2_at, u2_off, uz_same, uz_ne, Int.reduceToNat]
      refine ⟨_, sh363, ⟨by omega, by omega⟩, ?_⟩
      try simp (disch := omega) only [m3_z, m3_f, m3_q, m3_o, u2_m3_z, u2_m3_f, u2_m3_q, u2_m3_o, pr_at, pr_off, u2_pr, u2_at, u2_off, uz_same, uz_ne, Int.reduceToNat]
      refine ⟨by (refine ⟨?_, ?_⟩ <;> omega), ?_⟩
      have e := ih (j + 1) (by omega)
      rw [show (j + 1 - 321).toNat = (j - 321).toNat + 1 by omega, hs, ← e1] at e
      exact e
theorem L_saveB {G : amG} {I : Nat → Nat → Int} {R : Nat → Nat → Option Nat} {L : Nat → Nat → Int64} {x : Nat} {Q : amR → amH → Prop} (hG : amG0 G) (hR : RM R) {z f q s : Row} {b : Int} (hb : 0 ≤ b ∧ b ≤ 4) (hS : I 361 2 = b) (hK : X G mX10_save Q 87 [some (aR (some 361)), some (aI 321)] [] (m3 (pr I 363 (cpS s z (321 * b).toNat 321)) z f q, R, L, SH, x, 0, 0)) :
    ∀ (n : Nat) (j : Int), 0 ≤ j ∧ j ≤ 321 ∧ 321 - j < n → X G mX10_save Q 53 [some (aR (some 361)), some (aI j)] [] (m3 (pr I 363 (cpS s z (321 * b).toNat j.toNat)) z f q, R, L, SH, x, 0, 0) := by
  intro n
  induction n with
  | zero =>
    intros
    exfalso; omega
  | succ n ih =>
    intro j h1
    have hs := cpS_s s z (321 * b).toNat j.toNat
    have e1 : (321 * b + j).toNat = (321 * b).toNat + j.toNat := by omega
    refine B_X10_save_53 ?_
    try dsimp only
    (try simp (disch := omega) only [m3_z, m3_f, m3_q, m3_o, u2_m3_z, u2_m3_f, u2_m3_q, u2_m3_o, pr_at, pr_off, u2_pr, u2_at, u2_off, uz_same, uz_ne, Int.reduceToNat]; try simp only [hS])
    refine ⟨fun c57_0 => ?_, fun c57_0 => ?_⟩
    · have e : j = 321 := by omega
      rw [e]
      exact hK
    · refine ⟨sh361, _, hR.saved, ?_⟩
      refine ⟨sh361, ?_⟩
      refine ⟨by (refine ⟨?_, ?_⟩ <;> omega), ?_⟩
      refine ⟨by (refine ⟨?_, ?_⟩ <;> omega), ?_⟩
      refine ⟨sh361, _, hR.z, ?_⟩
      refine ⟨_, sh362, ⟨by omega, by omega⟩, ?_⟩
      (try simp (disch := omega) only [m3_z, m3_f, m3_q, m3_o, u2_m3_z, u2_m3_f, u2_m3_q, u2_m3_o, pr_at, pr_off, u2_pr, u2_at, u2_off, uz_same, uz_ne, Int.reduceToNat]; try simp only [hS])
      refine ⟨_, sh363, ⟨by omega, by omega⟩, ?_⟩
      (try simp (disch := omega) only [m3_z, m3_f, m3_q, m3_o, u2_m3_z, u2_m3_f, u2_m3_q, u2_m3_o, pr_at, pr_off, u2_pr, u2_at, u2_off, uz_same, uz_ne, Int.reduceToNat]; try simp only [hS])
      refine ⟨by (refine ⟨?_, ?_⟩ <;> omega), ?_⟩
      have e := ih (j + 1) (by omega)
      rw [show (j + 1).toNat = j.toNat + 1 by omega, hs, ← e1] at e
      exact e
