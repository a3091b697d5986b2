/-! ===== what is made: the small constructors ===== -/
/-- nothing is written from k on -/
def Zz {α : Type} (f : Nat → Nat → α) (v : α) (k : Nat) : Prop := ∀ a : Nat, k ≤ a → ∀ j : Nat, f a j = v
theorem Zz_u1 {α : Type} {f : Nat → Nat → α} {v : α} {k a : Nat} (h : Zz f v k) (q : k ≤ a) : u1 f a v = f := funext (fun b => funext (fun j => by
  unfold u1
  by_cases e : b = a
  · rw [if_pos e, e, h a q j]
  · rw [if_neg e]))
theorem Zz_u2 {α : Type} {f : Nat → Nat → α} {v : α} {k x : Nat} (h : Zz f v k) (q : x < k) (j : Nat) (w : α) : Zz (u2 f x j w) v k := fun a ha i => by
  rw [u2_ne _ _ (by omega)]
  exact h a ha i
theorem Zz_le {α : Type} {f : Nat → Nat → α} {v : α} {k m : Nat} (h : Zz f v k) (q : k ≤ m) : Zz f v m := fun a ha => h a (Nat.le_trans q ha)
theorem sap {S T : List (Nat × Nat)} {x : Nat} {s : Nat × Nat} (h : S[x]? = some s) : (S ++ T)[x]? = some s := by
  obtain ⟨q, _⟩ := List.getElem?_eq_some_iff.mp h
  rw [List.getElem?_append_left q]
  exact h
theorem slt {S : List (Nat × Nat)} {x : Nat} {s : Nat × Nat} (h : S[x]? = some s) : x < S.length := by
  obtain ⟨q, _⟩ := List.getElem?_eq_some_iff.mp h
  exact q
theorem snew {S : List (Nat × Nat)} {s : Nat × Nat} : (S ++ [s])[S.length]? = some s := by simp
theorem sl1 {S : List (Nat × Nat)} {s : Nat × Nat} : (S ++ [s]).length = S.length + 1 := by simp
theorem D_X5_init {G : amG} {I : Nat → Nat → Int} {R : Nat → Nat → Option Nat} {L : Nat → Nat → Int64} {S : List (Nat × Nat)} {c t : Nat} {Q : amR → amH → Prop} (hG : amG0 G) {x0 : Nat} (hx : S[x0]? = some (5, 0)) (zI : Zz I 0 S.length) (zR : Zz R none S.length) (zL : Zz L 0 S.length) (hQ : Q (Sum.inl none) (I, u2 R x0 0 (some S.length), L, S ++ [(20, 96)], 0, 0, 0)) : CT G sX5_init [aR (some x0)] (I, R, L, S, 0, c, t) Q := by
  have hlt := slt hx
  refine CT_of ok_X5_init hG (Nat.le_of_ble_eq_true rfl) ?_
  show X G mX5_init Q 0 _ [] (I, R, L, S, 0, 1, 96)
  refine B_X5_init_0 ?_
  try dsimp only
  refine ⟨(by first | rfl | exact Nat.le_of_ble_eq_true rfl), ?_⟩
  refine ⟨⟨by decide, by decide, by decide, by decide, rfl⟩, ?_⟩
  refine ⟨sap hx, ?_⟩
  refine ⟨rfl, ?_⟩
  try simp only [List.length_append, List.length_cons, List.length_nil, Nat.add_assoc, Nat.zero_add, Nat.reduceAdd]
  rw [Zz_u1 zI (Nat.le_refl _), Zz_u1 zR (Nat.le_refl _), Zz_u1 zL (Nat.le_refl _)]
  exact hQ
theorem D_X4_init {G : amG} {I : Nat → Nat → Int} {R : Nat → Nat → Option Nat} {L : Nat → Nat → Int64} {S : List (Nat × Nat)} {c t : Nat} {Q : amR → amH → Prop} (hG : amG0 G) {x0 : Nat} (hx : S[x0]? = some (4, 0)) (zI : Zz I 0 S.length) (zR : Zz R none S.length) (zL : Zz L 0 S.length) (hQ : Q (Sum.inl none) (I, u2 (u2 (u2 R x0 0 (some S.length)) x0 1 (some (S.length + 1))) x0 2 (some (S.length + 2)), L, S ++ [(20, 96)] ++ [(20, 96)] ++ [(20, 96)], 0, 0, 0)) : CT G sX4_init [aR (some x0)] (I, R, L, S, 0, c, t) Q := by
  have hlt := slt hx
  refine CT_of ok_X4_init hG (Nat.le_of_ble_eq_true rfl) ?_
  show X G mX4_init Q 0 _ [] (I, R, L, S, 0, 3, 288)
  refine B_X4_init_0 ?_
  try dsimp only
  refine ⟨(by first | rfl | exact Nat.le_of_ble_eq_true rfl), ?_⟩
  refine ⟨⟨by decide, by decide, by decide, by decide, rfl⟩, ?_⟩
  refine ⟨sap hx, ?_⟩
  refine ⟨⟨by decide, by decide, by decide, by decide, rfl⟩, ?_⟩
  refine ⟨sap (sap hx), ?_⟩
  refine ⟨⟨by decide, by decide, by decide, by decide, rfl⟩, ?_⟩
  refine ⟨sap (sap (sap hx)), ?_⟩
  refine ⟨rfl, ?_⟩
  try simp only [List.length_append, List.length_cons, List.length_nil, Nat.add_assoc, Nat.zero_add, Nat.reduceAdd]
  rw [Zz_u1 zI (Nat.le_refl _), Zz_u1 zR (Nat.le_refl _), Zz_u1 zL (Nat.le_refl _)]
  rw [Zz_u1 zI (by omega), Zz_u1 (Zz_u2 zR hlt _ _) (by omega), Zz_u1 zL (by omega)]
  rw [Zz_u1 zI (by omega), Zz_u1 (Zz_u2 (Zz_u2 zR hlt _ _) hlt _ _) (by omega), Zz_u1 zL (by omega)]
  exact hQ
theorem D_X6_init {G : amG} {I : Nat → Nat → Int} {R : Nat → Nat → Option Nat} {L : Nat → Nat → Int64} {S : List (Nat × Nat)} {c t : Nat} {Q : amR → amH → Prop} (hG : amG0 G) {x0 : Nat} (hx : S[x0]? = some (6, 0)) (zI : Zz I 0 S.length) (zR : Zz R none S.length) (zL : Zz L 0 S.length) (hQ : Q (Sum.inl none) (I, u2 (u2 (u2 R x0 0 (some S.length)) x0 2 (some (S.length + 1))) x0 3 (some (S.length + 2)), L, S ++ [(20, 60)] ++ [(20, 10)] ++ [(20, 10)], 0, 0, 0)) : CT G sX6_init [aR (some x0)] (I, R, L, S, 0, c, t) Q := by
  have hlt := slt hx
  refine CT_of ok_X6_init hG (Nat.le_of_ble_eq_true rfl) ?_
  show X G mX6_init Q 0 _ [] (I, R, L, S, 0, 3, 80)
  refine B_X6_init_0 ?_
  try dsimp only
  refine ⟨(by first | rfl | exact Nat.le_of_ble_eq_true rfl), ?_⟩
  refine ⟨⟨by decide, by decide, by decide, by decide, rfl⟩, ?_⟩
  refine ⟨sap hx, ?_⟩
  refine ⟨⟨by decide, by decide, by decide, by decide, rfl⟩, ?_⟩
  refine ⟨sap (sap hx), ?_⟩
  refine ⟨⟨by decide, by decide, by decide, by decide, rfl⟩, ?_⟩
  refine ⟨sap (sap (sap hx)), ?_⟩
  refine ⟨rfl, ?_⟩
  try simp only [List.length_append, List.length_cons, List.length_nil, Nat.add_assoc, Nat.zero_add, Nat.reduceAdd]
  rw [Zz_u1 zI (Nat.le_refl _), Zz_u1 zR (Nat.le_refl _), Zz_u1 zL (Nat.le_refl _)]
  rw [Zz_u1 zI (by omega), Zz_u1 (Zz_u2 zR hlt _ _) (by omega), Zz_u1 zL (by omega)]
  rw [Zz_u1 zI (by omega), Zz_u1 (Zz_u2 (Zz_u2 zR hlt _ _) hlt _ _) (by omega), Zz_u1 zL (by omega)]
  exact hQ
theorem D_X7_init {G : amG} {h : amH} {Q : amR → amH → Prop} (hG : amG0 G) {x0 : Nat} (hQ : Q (Sum.inl none) (hGive h 0 0)) : CT G sX7_init [aR (some x0)] h Q := by
  refine CT_of ok_X7_init hG (Nat.le_of_ble_eq_true rfl) ?_
  show X G mX7_init Q 0 _ [] (h.1, h.2.1, h.2.2.1, h.2.2.2.1, h.2.2.2.2.1, 0, 0)
  refine B_X7_init_0 ?_
  exact ⟨(by first | rfl | exact Nat.le_of_ble_eq_true rfl), rfl, hQ⟩
theorem D_X3_init {G : amG} {h : amH} {Q : amR → amH → Prop} (hG : amG0 G) {x0 : Nat} (hQ : Q (Sum.inl none) (hGive h 0 0)) : CT G sX3_init [aR (some x0)] h Q := by
  refine CT_of ok_X3_init hG (Nat.le_of_ble_eq_true rfl) ?_
  show X G mX3_init Q 0 _ [] (h.1, h.2.1, h.2.2.1, h.2.2.2.1, h.2.2.2.2.1, 0, 0)
  refine B_X3_init_0 ?_
  exact ⟨(by first | rfl | exact Nat.le_of_ble_eq_true rfl), rfl, hQ⟩
/-! ===== what is made: couriers, marshal ===== -/
theorem D_X2_init {G : amG} {I : Nat → Nat → Int} {R : Nat → Nat → Option Nat} {L : Nat → Nat → Int64} {S : List (Nat × Nat)} {c t : Nat} {Q : amR → amH → Prop} (hG : amG0 G) {x0 : Nat} (hx : S[x0]? = some (2, 0)) (zI : Zz I 0 S.length) (zR : Zz R none S.length) (zL : Zz L 0 S.length) (hQ : Q (Sum.inl none) (I, u2 (u2 (u2 (u2 R S.length 0 (some (S.length + 1))) S.length 1 (some (S.length + 2))) S.length 2 (some (S.length + 3))) x0 0 (some S.length), L, S ++ [(4, 0)] ++ [(20, 96)] ++ [(20, 96)] ++ [(20, 96)], 0, 0, 0)) : CT G sX2_init [aR (some x0)] (I, R, L, S, 0, c, t) Q := by
  have hlt := slt hx
  refine CT_of ok_X2_init hG (Nat.le_of_ble_eq_true rfl) ?_
  show X G mX2_init Q 0 _ [] (I, R, L, S, 0, 4, 291)
  refine B_X2_init_0 ?_
  try dsimp only
  refine ⟨(by first | rfl | exact Nat.le_of_ble_eq_true rfl), ⟨by decide, by decide, rfl⟩, rfl, ⟨by decide, by decide, Nat.le_of_ble_eq_true rfl⟩, trivial, ?_⟩
  rw [Zz_u1 zI (Nat.le_refl _), Zz_u1 zR (Nat.le_refl _), Zz_u1 zL (Nat.le_refl _)]
  refine D_X4_init hG snew (by rw [sl1]; exact Zz_le zI (Nat.le_succ _)) (by rw [sl1]; exact Zz_le zR (Nat.le_succ _)) (by rw [sl1]; exact Zz_le zL (Nat.le_succ _)) ?_
  refine af_N (cc := 3) (tt := 288) rfl rfl rfl ?_
  try dsimp only
  refine B_X2_init_12 ?_
  try dsimp only
  refine ⟨sap (sap (sap (sap hx))), rfl, ?_⟩
  try simp only [sl1, List.length_append, List.length_cons, List.length_nil, Nat.add_assoc, Nat.zero_add, Nat.reduceAdd]
  exact hQ
theorem D_X0_init {G : amG} {I : Nat → Nat → Int} {R : Nat → Nat → Option Nat} {L : Nat → Nat → Int64} {S : List (Nat × Nat)} {c t : Nat} {Q : amR → amH → Prop} (hG : amG0 G) {x0 : Nat} (hx : S[x0]? = some (0, 0)) (zI : Zz I 0 S.length) (zR : Zz R none S.length) (zL : Zz L 0 S.length) (hQ : Q (Sum.inl none) (I, u2 (u2 (u2 (u2 (u2 R S.length 0 (some (S.length + 1))) S.length 1 (some (S.length + 2))) S.length 2 (some (S.length + 3))) x0 0 (some S.length)) x0 1 (some (S.length + 4)), L, S ++ [(4, 0)] ++ [(20, 96)] ++ [(20, 96)] ++ [(20, 96)] ++ [(20, 96)], 0, 0, 0)) : CT G sX0_init [aR (some x0)] (I, R, L, S, 0, c, t) Q := by
  have hlt := slt hx
  refine CT_of ok_X0_init hG (Nat.le_of_ble_eq_true rfl) ?_
  show X G mX0_init Q 0 _ [] (I, R, L, S, 0, 5, 387)
  refine B_X0_init_0 ?_
  try dsimp only
  refine ⟨(by first | rfl | exact Nat.le_of_ble_eq_true rfl), ⟨by decide, by decide, rfl⟩, rfl, ⟨by decide, by decide, Nat.le_of_ble_eq_true rfl⟩, trivial, ?_⟩
  rw [Zz_u1 zI (Nat.le_refl _), Zz_u1 zR (Nat.le_refl _), Zz_u1 zL (Nat.le_refl _)]
  refine D_X4_init hG snew (by rw [sl1]; exact Zz_le zI (Nat.le_succ _)) (by rw [sl1]; exact Zz_le zR (Nat.le_succ _)) (by rw [sl1]; exact Zz_le zL (Nat.le_succ _)) ?_
  refine af_N (cc := 3) (tt := 288) rfl rfl rfl ?_
  try dsimp only
  refine B_X0_init_12 ?_
  try dsimp only
  refine ⟨sap (sap (sap (sap hx))), ⟨by decide, by decide, by decide, by decide, rfl⟩, sap (sap (sap (sap (sap hx)))), rfl, ?_⟩
  try simp only [sl1, List.length_append, List.length_cons, List.length_nil, Nat.add_assoc, Nat.zero_add, Nat.reduceAdd]
  rw [Zz_u1 zI (by omega), Zz_u1 zL (by omega), Zz_u1 (k := S.length + 4) (Zz_u2 (Zz_u2 (Zz_u2 (Zz_u2 (Zz_le zR (by omega)) (by omega) _ _) (by omega) _ _) (by omega) _ _) (by omega) _ _) (by omega)]
  exact hQ
/-! ===== what is made: the rows of a war's troops and orders ===== -/
/-- the first i of the array a are o, o + 1, .. -/
def rA (R : Nat → Nat → Option Nat) (a o i : Nat) : Nat → Nat → Option Nat := fun x j => if x = a ∧ j < i then some (o + j) else R x j
theorem rA_0 (R : Nat → Nat → Option Nat) (a o : Nat) : rA R a o 0 = R := funext (fun x => funext (fun j => by
  unfold rA
  rw [if_neg (by omega)]))
theorem rA_s (R : Nat → Nat → Option Nat) (a o i : Nat) : u2 (rA R a o i) a i (some (o + i)) = rA R a o (i + 1) := funext (fun x => funext (fun j => by
  unfold u2 rA
  by_cases e : x = a ∧ j = i
  · rw [if_pos e, if_pos (by omega), e.2]
  · rw [if_neg e]
    by_cases q : x = a ∧ j < i
    · rw [if_pos q, if_pos (by omega)]
    · rw [if_neg q, if_neg (by omega)]))
theorem rA_ne (R : Nat → Nat → Option Nat) {a o i x : Nat} (j : Nat) (h : x ≠ a) : rA R a o i x j = R x j := if_neg (fun q => h q.1)
theorem Zz_rA {R : Nat → Nat → Option Nat} {k a : Nat} (h : Zz R none k) (q : a < k) (o i : Nat) : Zz (rA R a o i) none k := fun x hx j => by
  rw [rA_ne _ _ (by omega)]
  exact h x hx j
theorem L_X8_57 {G : amG} {I : Nat → Nat → Int} {R : Nat → Nat → Option Nat} {L : Nat → Nat → Int64} {S : List (Nat × Nat)} {Q : amR → amH → Prop} (hG : amG0 G) {b a o : Nat} (hS : S.length = o) (hb : S[b]? = some (8, 0)) (ha : S[a]? = some (22, 12)) (hba : b ≠ a) (hR : R b 2 = some a) (zI : Zz I 0 o) (zR : Zz R none o) (zL : Zz L 0 o) (hK : X G mX8_init Q 82 [some (aR (some b)), some (aI (12 : Nat))] [] (I, rA R a o 12, L, S ++ List.replicate 12 (7, 0), 0, 30, 120)) :
    ∀ (n i c t : Nat), i ≤ 12 → 12 - i < n → c = 30 + (12 - i) → t = 120 + 8 * (12 - i) → X G mX8_init Q 57 [some (aR (some b)), some (aI (i : Nat))] [] (I, rA R a o i, L, S ++ List.replicate i (7, 0), 0, c, t) := by
  have hao : a < o := by have := slt ha; omega
  intro n
  induction n with
  | zero =>
    intros
    exfalso; omega
  | succ n ih =>
    intro i c t h1 h2 h3 h4
    have hl : (S ++ List.replicate i ((7 : Nat), (0 : Nat))).length = o + i := by simp [hS]
    refine B_X8_init_57 ?_
    try dsimp only
    rw [hl, Zz_u1 zI (by omega), Zz_u1 (Zz_rA zR hao o i) (by omega), Zz_u1 zL (by omega)]
    refine ⟨fun q => ?_, fun q => ?_⟩
    · have e : i = 12 := by omega
      have e1 : c = 30 := by omega
      have e2 : t = 120 := by omega
      subst e e1 e2
      exact hK
    · refine ⟨sap hb, a, ?_, ⟨by omega, by omega, rfl⟩, rfl, ⟨Nat.zero_le _, Nat.zero_le _, Nat.le_of_ble_eq_true rfl⟩, trivial, ?_⟩
      · rw [rA_ne _ _ hba]
        exact hR
      refine D_X7_init hG ?_
      refine af_N0 rfl rfl rfl ?_
      try dsimp only
      refine B_X8_init_75 ?_
      try dsimp only
      refine ⟨22, 12, sap (sap ha), ⟨by decide, by decide⟩, ?_, ⟨by omega, by omega⟩, (by refine ⟨?_, ?_⟩ <;> omega), ?_⟩
      · rw [← hl]
        exact snew
      · have e := ih (i + 1) (c - 1) (t - 8) (by omega) (by omega) (by omega) (by omega)
        rw [Int.toNat_natCast, rA_s, List.append_assoc, ← List.replicate_succ']
        exact e
theorem L_X8_84 {G : amG} {I : Nat → Nat → Int} {R : Nat → Nat → Option Nat} {L : Nat → Nat → Int64} {S : List (Nat × Nat)} {Q : amR → amH → Prop} (hG : amG0 G) {b a o : Nat} (hS : S.length = o) (hb : S[b]? = some (8, 0)) (ha : S[a]? = some (23, 30)) (hba : b ≠ a) (hR : R b 4 = some a) (zI : Zz I 0 o) (zR : Zz R none o) (zL : Zz L 0 o) (hK : X G mX8_init Q 109 [some (aR (some b)), some (aI (30 : Nat))] [] (I, rA R a o 30, L, S ++ List.replicate 30 (3, 0), 0, 0, 0)) :
    ∀ (n i c t : Nat), i ≤ 30 → 30 - i < n → c = 0 + (30 - i) → t = 0 + 4 * (30 - i) → X G mX8_init Q 84 [some (aR (some b)), some (aI (i : Nat))] [] (I, rA R a o i, L, S ++ List.replicate i (3, 0), 0, c, t) := by
  have hao : a < o := by have := slt ha; omega
  intro n
  induction n with
  | zero =>
    intros
    exfalso; omega
  | succ n ih =>
    intro i c t h1 h2 h3 h4
    have hl : (S ++ List.replicate i ((3 : Nat), (0 : Nat))).length = o + i := by simp [hS]
    refine B_X8_init_84 ?_
    try dsimp only
    rw [hl, Zz_u1 zI (by omega), Zz_u1 (Zz_rA zR hao o i) (by omega), Zz_u1 zL (by omega)]
    refine ⟨fun q => ?_, fun q => ?_⟩
    · have e : i = 30 := by omega
      have e1 : c = 0 := by omega
      have e2 : t = 0 := by omega
      subst e e1 e2
      exact hK
    · refine ⟨sap hb, a, ?_, ⟨by omega, by omega, rfl⟩, rfl, ⟨Nat.zero_le _, Nat.zero_le _, Nat.le_of_ble_eq_true rfl⟩, trivial, ?_⟩
      · rw [rA_ne _ _ hba]
        exact hR
      refine D_X3_init hG ?_
      refine af_N0 rfl rfl rfl ?_
      try dsimp only
      refine B_X8_init_102 ?_
      try dsimp only
      refine ⟨23, 30, sap (sap ha), ⟨by decide, by decide⟩, ?_, ⟨by omega, by omega⟩, (by refine ⟨?_, ?_⟩ <;> omega), ?_⟩
      · rw [← hl]
        exact snew
      · have e := ih (i + 1) (c - 1) (t - 4) (by omega) (by omega) (by omega) (by omega)
        rw [Int.toNat_natCast, rA_s, List.append_assoc, ← List.replicate_succ']
        exact e
