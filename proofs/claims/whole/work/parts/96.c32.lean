/-! ===== what is made: the small constructors ===== -/
/-- nothing is written from k on -/
def Zz {α : Type} (f : Nat → Nat → α) (v : α) (k : Nat) : Prop := ∀ a : Nat, k ≤ a → ∀ j : Nat, f a j = v
theorem Zz_u1 {α : Type} {f : Nat → Nat → α} {v : α} {k a : Nat} (h : Zz f v k) (q : k ≤ a) : u1 f a v = f := funext (fun b => funext (fun j => by
  unfold u1
  by_cases e : b = a
  · rw [if_pos e, e, h a q j]
  · rw [if_neg e]))
theorem Zz_u2 {α : Type} {f : Nat → Nat → α} {v : α} {k x : Nat} (h : Zz f v k) (q : x < k) (j : Nat) (w : α) : Zz (u2 f x j w) v k := fun a ha i => by
  rw [u2_ne _ _ (by omega)]
  exact h a ha i
theorem Zz_le {α : Type} {f : Nat → Nat → α} {v : α} {k m : Nat} (h : Zz f v k) (q : k ≤ m) : Zz f v m := fun a ha => h a (Nat.le_trans q ha)
theorem sap {S T : List (Nat × Nat)} {x : Nat} {s : Nat × Nat} (h : S[x]? = some s) : (S ++ T)[x]? = some s := by
  obtain ⟨q, _⟩ := List.getElem?_eq_some_iff.mp h
  rw [List.getElem?_append_left q]
  exact h
theorem slt {S : List (Nat × Nat)} {x : Nat} {s : Nat × Nat} (h : S[x]? = some s) : x < S.length := by
  obtain ⟨q, _⟩ := List.getElem?_eq_some_iff.mp h
  exact q
theorem snew {S : List (Nat × Nat)} {s : Nat × Nat} : (S ++ [s])[S.length]? = some s := by simp
theorem sl1 {S : List (Nat × Nat)} {s : Nat × Nat} : (S ++ [s]).length = S.length + 1 := by simp
theorem D_X5_init {G : amG} {I : Nat → Nat → Int} {R : Nat → Nat → Option Nat} {L : Nat → Nat → Int64} {S : List (Nat × Nat)} {c t : Nat} {Q : amR → amH → Prop} (hG : amG0 G) {x0 : Nat} (hx : S[x0]? = some (5, 0)) (zI : Zz I 0 S.length) (zR : Zz R none S.length) (zL : Zz L 0 S.length) (hQ : Q (Sum.inl none) (I, u2 R x0 0 (some S.length), L, S ++ [(20, 96)], 0, 0, 0)) : CT G sX5_init [aR (some x0)] (I, R, L, S, 0, c, t) Q := by
  have hlt := slt hx
  refine CT_of ok_X5_init hG (Nat.le_of_ble_eq_true rfl) ?_
  show X G mX5_init Q 0 _ [] (I, R, L, S, 0, 1, 96)
  refine B_X5_init_0 ?_
  try dsimp only
  refine ⟨(by first | rfl | exact Nat.le_of_ble_eq_true rfl), ?_⟩
  refine ⟨⟨by decide, by decide, by decide, by decide, rfl⟩, ?_⟩
  refine ⟨sap hx, ?_⟩
  refine ⟨rfl, ?_⟩
  try simp only [List.length_append, List.length_cons, List.length_nil, Nat.add_assoc, Nat.zero_add, Nat.reduceAdd]
  rw [Zz_u1 zI (Nat.le_refl _), Zz_u1 zR (Nat.le_refl _), Zz_u1 zL (Nat.le_refl _)]
  exact hQ
theorem D_X4_init {G : amG} {I : Nat → Nat → Int} {R : Nat → Nat → Option Nat} {L : Nat → Nat → Int64} {S : List (Nat × Nat)} {c t : Nat} {Q : amR → amH → Prop} (hG : amG0 G) {x0 : Nat} (hx : S[x0]? = some (4, 0)) (zI : Zz I 0 S.length) (zR : Zz R none S.length) (zL : Zz L 0 S.length) (hQ : Q (Sum.inl none) (I, u2 (u2 (u2 R x0 0 (some S.length)) x0 1 (some (S.length + 1))) x0 2 (some (S.length + 2)), L, S ++ [(20, 96)] ++ [(20, 96)] ++ [(20, 96)], 0, 0, 0)) : CT G sX4_init [aR (some x0)] (I, R, L, S, 0, c, t) Q := by
  have hlt := slt hx
  refine CT_of ok_X4_init hG (Nat.le_of_ble_eq_true rfl) ?_
  show X G mX4_init Q 0 _ [] (I, R, L, S, 0, 3, 288)
  refine B_X4_init_0 ?_
  try dsimp only
  refine ⟨(by first | rfl | exact Nat.le_of_ble_eq_true rfl), ?_⟩
  refine ⟨⟨by decide, by decide, by decide, by decide, rfl⟩, ?_⟩
  refine ⟨sap hx, ?_⟩
  refine ⟨⟨by decide, by decide, by decide, by decide, rfl⟩, ?_⟩
  refine ⟨sap (sap hx), ?_⟩
  refine ⟨⟨by decide, by decide, by decide, by decide, rfl⟩, ?_⟩
  refine ⟨sap (sap (sap hx)), ?_⟩
  refine ⟨rfl, ?_⟩
  try simp only [List.length_append, List.length_cons, List.length_nil, Nat.add_assoc, Nat.zero_add, Nat.reduceAdd]
  rw [Zz_u1 zI (Nat.le_refl _), Zz_u1 zR (Nat.le_refl _), Zz_u1 zL (Nat.le_refl _)]
  rw [Zz_u1 zI (by omega), Zz_u1 (Zz_u2 zR hlt _ _) (by omega), Zz_u1 zL (by omega)]
  rw [Zz_u1 zI (by omega), Zz_u1 (Zz_u2 (Zz_u2 zR hlt _ _) hlt _ _) (by omega), Zz_u1 zL (by omega)]
  exact hQ
theorem D_X6_init {G : amG} {I : Nat → Nat → Int} {R : Nat → Nat → Option Nat} {L : Nat → Nat → Int64} {S : List (Nat × Nat)} {c t : Nat} {Q : amR → amH → Prop} (hG : amG0 G) {x0 : Nat} (hx : S[x0]? = some (6, 0)) (zI : Zz I 0 S.length) (zR : Zz R none S.length) (zL : Zz L 0 S.length) (hQ : Q (Sum.inl none) (I, u2 (u2 (u2 R x0 0 (some S.length)) x0 2 (some (S.length + 1))) x0 3 (some (S.length + 2)), L, S ++ [(20, 60)] ++ [(20, 10)] ++ [(20, 10)], 0, 0, 0)) : CT G sX6_init [aR (some x0)] (I, R, L, S, 0, c, t) Q := by
  have hlt := slt hx
  refine CT_of ok_X6_init hG (Nat.le_of_ble_eq_true rfl) ?_
  show X G mX6_init Q 0 _ [] (I, R, L, S, 0, 3, 80)
  refine B_X6_init_0 ?_
  try dsimp only
  refine ⟨(by first | rfl | exact Nat.le_of_ble_eq_true rfl), ?_⟩
  refine ⟨⟨by decide, by decide, by decide, by decide, rfl⟩, ?_⟩
  refine ⟨sap hx, ?_⟩
  refine ⟨⟨by decide, by decide, by decide, by decide, rfl⟩, ?_⟩
  refine ⟨sap (sap hx), ?_⟩
  refine ⟨⟨by decide, by decide, by decide, by decide, rfl⟩, ?_⟩
  refine ⟨sap (sap (sap hx)), ?_⟩
  refine ⟨rfl, ?_⟩
  try simp only [List.length_append, List.length_cons, List.length_nil, Nat.add_assoc, Nat.zero_add, Nat.reduceAdd]
  rw [Zz_u1 zI (Nat.le_refl _), Zz_u1 zR (Nat.le_refl _), Zz_u1 zL (Nat.le_refl _)]
  rw [Zz_u1 zI (by omega), Zz_u1 (Zz_u2 zR hlt _ _) (by omega), Zz_u1 zL (by omega)]
  rw [Zz_u1 zI (by omega), Zz_u1 (Zz_u2 (Zz_u2 zR hlt _ _) hlt _ _) (by omega), Zz_u1 zL (by omega)]
  exact hQ
theorem D_X10_init {G : amG} {I : Nat → Nat → Int} {R : Nat → Nat → Option Nat} {L : Nat → Nat → Int64} {S : List (Nat × Nat)} {c t : Nat} {Q : amR → amH → Prop} (hG : amG0 G) {x0 : Nat} (hx : S[x0]? = some (10, 0)) (zI : Zz I 0 S.length) (zR : Zz R none S.length) (zL : Zz L 0 S.length) (hQ : Q (Sum.inl none) (u2 I S.length 97 95, u2 (u2 (u2 (u2 (u2 (u2 (u2 R x0 1 (some S.length)) x0 3 (some (S.length + 1))) x0 5 (some (S.length + 2))) x0 6 (some (S.length + 3))) x0 7 (some (S.length + 4))) x0 8 (some (S.length + 5))) x0 12 (some (S.length + 6)), L, S ++ [(20, 321)] ++ [(20, 1605)] ++ [(20, 60)] ++ [(20, 96)] ++ [(20, 96)] ++ [(20, 321)] ++ [(20, 45)], 0, 0, 0)) : CT G sX10_init [aR (some x0)] (I, R, L, S, 0, c, t) Q := by
  have hlt := slt hx
  refine CT_of ok_X10_init hG (Nat.le_of_ble_eq_true rfl) ?_
  show X G mX10_init Q 0 _ [] (I, R, L, S, 0, 7, 2544)
  refine B_X10_init_0 ?_
  try dsimp only
  refine ⟨(by first | rfl | exact Nat.le_of_ble_eq_true rfl), ?_⟩
  refine ⟨⟨by decide, by decide, by decide, by decide, rfl⟩, ?_⟩
  refine ⟨sap hx, ?_⟩
  refine ⟨⟨by decide, by decide, by decide, by decide, rfl⟩, ?_⟩
  refine ⟨sap (sap hx), ?_⟩
  refine ⟨⟨by decide, by decide, by decide, by decide, rfl⟩, ?_⟩
  refine ⟨sap (sap (sap hx)), ?_⟩
  refine ⟨⟨by decide, by decide, by decide, by decide, rfl⟩, ?_⟩
  refine ⟨sap (sap (sap (sap hx))), ?_⟩
  refine ⟨⟨by decide, by decide, by decide, by decide, rfl⟩, ?_⟩
  refine ⟨sap (sap (sap (sap (sap hx)))), ?_⟩
  refine ⟨⟨by decide, by decide, by decide, by decide, rfl⟩, ?_⟩
  refine ⟨sap (sap (sap (sap (sap (sap hx))))), ?_⟩
  refine ⟨⟨by decide, by decide, by decide, by decide, rfl⟩, ?_⟩
  refine ⟨sap (sap (sap (sap (sap (sap (sap hx)))))), ?_⟩
  try simp only [List.length_append, List.length_cons, List.length_nil, Nat.add_assoc, Nat.zero_add, Nat.reduceAdd]
  rw [Zz_u1 zI (Nat.le_refl _), Zz_u1 zR (Nat.le_refl _), Zz_u1 zL (Nat.le_refl _)]
  rw [Zz_u1 zI (by omega), Zz_u1 (Zz_u2 zR hlt _ _) (by omega), Zz_u1 zL (by omega)]
  rw [Zz_u1 zI (by omega), Zz_u1 (Zz_u2 (Zz_u2 zR hlt _ _) hlt _ _) (by omega), Zz_u1 zL (by omega)]
  rw [Zz_u1 zI (by omega), Zz_u1 (Zz_u2 (Zz_u2 (Zz_u2 zR hlt _ _) hlt _ _) hlt _ _) (by omega), Zz_u1 zL (by omega)]
  rw [Zz_u1 zI (by omega), Zz_u1 (Zz_u2 (Zz_u2 (Zz_u2 (Zz_u2 zR hlt _ _) hlt _ _) hlt _ _) hlt _ _) (by omega), Zz_u1 zL (by omega)]
  rw [Zz_u1 zI (by omega), Zz_u1 (Zz_u2 (Zz_u2 (Zz_u2 (Zz_u2 (Zz_u2 zR hlt _ _) hlt _ _) hlt _ _) hlt _ _) hlt _ _) (by omega), Zz_u1 zL (by omega)]
  rw [Zz_u1 zI (by omega), Zz_u1 (Zz_u2 (Zz_u2 (Zz_u2 (Zz_u2 (Zz_u2 (Zz_u2 zR hlt _ _) hlt _ _) hlt _ _) hlt _ _) hlt _ _) hlt _ _) (by omega), Zz_u1 zL (by omega)]
  refine ⟨sap (sap (sap (sap (sap (sap (sap hx)))))), S.length, (by simp [u2]), 321, sap (sap (sap (sap (sap (sap snew))))), ⟨by decide, by decide⟩, rfl, ?_⟩
  exact hQ
theorem D_X7_init {G : amG} {h : amH} {Q : amR → amH → Prop} (hG : amG0 G) {x0 : Nat} (hQ : Q (Sum.inl none) (hGive h 0 0)) : CT G sX7_init [aR (some x0)] h Q := by
  refine CT_of ok_X7_init hG (Nat.le_of_ble_eq_true rfl) ?_
  show X G mX7_init Q 0 _ [] (h.1, h.2.1, h.2.2.1, h.2.2.2.1, h.2.2.2.2.1, 0, 0)
  refine B_X7_init_0 ?_
  exact ⟨(by first | rfl | exact Nat.le_of_ble_eq_true rfl), rfl, hQ⟩
theorem D_X3_init {G : amG} {h : amH} {Q : amR → amH → Prop} (hG : amG0 G) {x0 : Nat} (hQ : Q (Sum.inl none) (hGive h 0 0)) : CT G sX3_init [aR (some x0)] h Q := by
  refine CT_of ok_X3_init hG (Nat.le_of_ble_eq_true rfl) ?_
  show X G mX3_init Q 0 _ [] (h.1, h.2.1, h.2.2.1, h.2.2.2.1, h.2.2.2.2.1, 0, 0)
  refine B_X3_init_0 ?_
  exact ⟨(by first | rfl | exact Nat.le_of_ble_eq_true rfl), rfl, hQ⟩
