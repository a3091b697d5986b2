/-! ===== what is made: the rows of a war's troops and orders ===== -/
/-- the first i of the array a are o, o + 1, .. -/
def rA (R : Nat → Nat → Option Nat) (a o i : Nat) : Nat → Nat → Option Nat := fun x j => if x = a ∧ j < i then some (o + j) else R x j
theorem rA_0 (R : Nat → Nat → Option Nat) (a o : Nat) : rA R a o 0 = R := funext (fun x => funext (fun j => by
  unfold rA
  rw [if_neg (by omega)]))
theorem rA_s (R : Nat → Nat → Option Nat) (a o i : Nat) : u2 (rA R a o i) a i (some (o + i)) = rA R a o (i + 1) := funext (fun x => funext (fun j => by
  unfold u2 rA
  by_cases e : x = a ∧ j = i
  · rw [if_pos e, if_pos (by omega), e.2]
  · rw [if_neg e]
    by_cases q : x = a ∧ j < i
    · rw [if_pos q, if_pos (by omega)]
    · rw [if_neg q, if_neg (by omega)]))
theorem rA_ne (R : Nat → Nat → Option Nat) {a o i x : Nat} (j : Nat) (h : x ≠ a) : rA R a o i x j = R x j := if_neg (fun q => h q.1)
theorem Zz_rA {R : Nat → Nat → Option Nat} {k a : Nat} (h : Zz R none k) (q : a < k) (o i : Nat) : Zz (rA R a o i) none k := fun x hx j => by
  rw [rA_ne _ _ (by omega)]
  exact h x hx j
theorem L_X8_57 {G : amG} {I : Nat → Nat → Int} {R : Nat → Nat → Option Nat} {L : Nat → Nat → Int64} {S : List (Nat × Nat)} {Q : amR → amH → Prop} (hG : amG0 G) {b a o : Nat} (hS : S.length = o) (hb : S[b]? = some (8, 0)) (ha : S[a]? = some (22, 12)) (hba : b ≠ a) (hR : R b 2 = some a) (zI : Zz I 0 o) (zR : Zz R none o) (zL : Zz L 0 o) (hK : X G mX8_init Q 82 [some (aR (some b)), some (aI (12 : Nat))] [] (I, rA R a o 12, L, S ++ List.replicate 12 (7, 0), 0, 30, 120)) :
    ∀ (n i c t : Nat), i ≤ 12 → 12 - i < n → c = 30 + (12 - i) → t = 120 + 8 * (12 - i) → X G mX8_init Q 57 [some (aR (some b)), some (aI (i : Nat))] [] (I, rA R a o i, L, S ++ List.replicate i (7, 0), 0, c, t) := by
  have hao : a < o := by have := slt ha; omega
  intro n
  induction n with
  | zero =>
    intros
    exfalso; omega
  | succ n ih =>
    intro i c t h1 h2 h3 h4
    have hl : (S ++ List.replicate i ((7 : Nat), (0 : Nat))).length = o + i := by simp [hS]
    refine B_X8_init_57 ?_
    try dsimp only
    rw [hl, Zz_u1 zI (by omega), Zz_u1 (Zz_rA zR hao o i) (by omega), Zz_u1 zL (by omega)]
    refine ⟨fun q => ?_, fun q => ?_⟩
    · have e : i = 12 := by omega
      have e1 : c = 30 := by omega
      have e2 : t = 120 := by omega
      subst e e1 e2
      exact hK
    · refine ⟨sap hb, a, ?_, ⟨by omega, by omega, rfl⟩, rfl, ⟨Nat.zero_le _, Nat.zero_le _, Nat.le_of_ble_eq_true rfl⟩, trivial, ?_⟩
      · rw [rA_ne _ _ hba]
        exact hR
      refine D_X7_init hG ?_
      refine af_N0 rfl rfl rfl ?_
      try dsimp only
      refine B_X8_init_75 ?_
      try dsimp only
      refine ⟨22, 12, sap (sap ha), ⟨by decide, by decide⟩, ?_, ⟨by omega, by omega⟩, (by refine ⟨?_, ?_⟩ <;> omega), ?_⟩
      · rw [← hl]
        exact snew
      · have e := ih (i + 1) (c - 1) (t - 8) (by omega) (by omega) (by omega) (by omega)
        rw [Int.toNat_natCast, rA_s, List.append_assoc, ← List.replicate_succ']
        exact e
theorem L_X8_84 {G : amG} {I : Nat → Nat → Int} {R : Nat → Nat → Option Nat} {L : Nat → Nat → Int64} {S : List (Nat × Nat)} {Q : amR → amH → Prop} (hG : amG0 G) {b a o : Nat} (hS : S.length = o) (hb : S[b]? = some (8, 0)) (ha : S[a]? = some (23, 30)) (hba : b ≠ a) (hR : R b 4 = some a) (zI : Zz I 0 o) (zR : Zz R none o) (zL : Zz L 0 o) (hK : X G mX8_init Q 109 [some (aR (some b)), some (aI (30 : Nat))] [] (I, rA R a o 30, L, S ++ List.replicate 30 (3, 0), 0, 0, 0)) :
    ∀ (n i c t : Nat), i ≤ 30 → 30 - i < n → c = 0 + (30 - i) → t = 0 + 4 * (30 - i) → X G mX8_init Q 84 [some (aR (some b)), some (aI (i : Nat))] [] (I, rA R a o i, L, S ++ List.replicate i (3, 0), 0, c, t) := by
  have hao : a < o := by have := slt ha; omega
  intro n
  induction n with
  | zero =>
    intros
    exfalso; omega
  | succ n ih =>
    intro i c t h1 h2 h3 h4
    have hl : (S ++ List.replicate i ((3 : Nat), (0 : Nat))).length = o + i := by simp [hS]
    refine B_X8_init_84 ?_
    try dsimp only
    rw [hl, Zz_u1 zI (by omega), Zz_u1 (Zz_rA zR hao o i) (by omega), Zz_u1 zL (by omega)]
    refine ⟨fun q => ?_, fun q => ?_⟩
    · have e : i = 30 := by omega
      have e1 : c = 0 := by omega
      have e2 : t = 0 := by omega
      subst e e1 e2
      exact hK
    · refine ⟨sap hb, a, ?_, ⟨by omega, by omega, rfl⟩, rfl, ⟨Nat.zero_le _, Nat.zero_le _, Nat.le_of_ble_eq_true rfl⟩, trivial, ?_⟩
      · rw [rA_ne _ _ hba]
        exact hR
      refine D_X3_init hG ?_
      refine af_N0 rfl rfl rfl ?_
      try dsimp only
      refine B_X8_init_102 ?_
      try dsimp only
      refine ⟨23, 30, sap (sap ha), ⟨by decide, by decide⟩, ?_, ⟨by omega, by omega⟩, (by refine ⟨?_, ?_⟩ <;> omega), ?_⟩
      · rw [← hl]
        exact snew
      · have e := ih (i + 1) (c - 1) (t - 4) (by omega) (by omega) (by omega) (by omega)
        rw [Int.toNat_natCast, rA_s, List.append_assoc, ← List.replicate_succ']
        exact e
