/-! ===== the classes: their words, their fields' types ===== -/
theorem uw_X0 : ∀ k, k < 2 → u_lay RX0 TX0 k ∈ lw_tbl := by
  intro k hk
  match k, hk with
  | 0, _ => exact tw_248
  | 1, _ => exact tw_250
theorem uw_X1 : ∀ k, k < 2 → u_lay RX1 TX1 k ∈ lw_tbl := by
  intro k hk
  match k, hk with
  | 0, _ => exact tw_199
  | 1, _ => exact tw_201
theorem uw_X2 : ∀ k, k < 1 → u_lay RX2 TX2 k ∈ lw_tbl := by
  intro k hk
  match k, hk with
  | 0, _ => exact tw_262
theorem uw_X3 : ∀ k, k < 4 → u_lay RX3 TX3 k ∈ lw_tbl := by
  intro k hk
  match k, hk with
  | 0, _ => exact tw_128
  | 1, _ => exact tw_130
  | 2, _ => exact tw_132
  | 3, _ => exact tw_134
theorem uw_X4 : ∀ k, k < 3 → u_lay RX4 TX4 k ∈ lw_tbl := by
  intro k hk
  match k, hk with
  | 0, _ => exact tw_239
  | 1, _ => exact tw_241
  | 2, _ => exact tw_243
theorem uw_X5 : ∀ k, k < 1 → u_lay RX5 TX5 k ∈ lw_tbl := by
  intro k hk
  match k, hk with
  | 0, _ => exact tw_54
theorem uw_X6 : ∀ k, k < 4 → u_lay RX6 TX6 k ∈ lw_tbl := by
  intro k hk
  match k, hk with
  | 0, _ => exact tw_213
  | 1, _ => exact tw_215
  | 2, _ => exact tw_217
  | 3, _ => exact tw_219
theorem uw_X7 : ∀ k, k < 8 → u_lay RX7 TX7 k ∈ lw_tbl := by
  intro k hk
  match k, hk with
  | 0, _ => exact tw_97
  | 1, _ => exact tw_99
  | 2, _ => exact tw_101
  | 3, _ => exact tw_103
  | 4, _ => exact tw_105
  | 5, _ => exact tw_107
  | 6, _ => exact tw_109
  | 7, _ => exact tw_111
theorem uw_X8 : ∀ k, k < 10 → u_lay RX8 TX8 k ∈ lw_tbl := by
  intro k hk
  match k, hk with
  | 0, _ => exact tw_166
  | 1, _ => exact tw_168
  | 2, _ => exact tw_170
  | 3, _ => exact tw_172
  | 4, _ => exact tw_174
  | 5, _ => exact tw_176
  | 6, _ => exact tw_178
  | 7, _ => exact tw_180
  | 8, _ => exact tw_182
  | 9, _ => exact tw_184
theorem uw_X9 : ∀ k, k < 6 → u_lay RX9 TX9 k ∈ lw_tbl := by
  intro k hk
  match k, hk with
  | 0, _ => exact tw_271
  | 1, _ => exact tw_273
  | 2, _ => exact tw_275
  | 3, _ => exact tw_277
  | 4, _ => exact tw_279
  | 5, _ => exact tw_281
theorem uw_all {C : String} {T : u_T} {N : Nat} (h : ∀ k, k < N → u_lay C T k ∈ lw_tbl) : ∀ w ∈ u_ws C T N, w ∈ lw_tbl := by
  intro w hw
  obtain ⟨k, hk, rfl⟩ := List.mem_map.mp hw
  exact h k (List.mem_range.mp hk)
def amKd (t : Nat) (ty : FieldType) : Prop := (t = 0 ∧ ty = .int) ∨ (t = 1 ∧ ty.isReference = true) ∨ (t = 2 ∧ ty = .long)
/-- what holds of a class of the world -/
def amClsOk (ci : Nat) (C : String) (T : u_T) (N : Nat) : Prop :=
  ci < 11 ∧ (∀ w ∈ u_ws C T N, w ∈ lw_tbl) ∧ (∀ k, k < N → parseFieldDescriptor (T k).2.2.1 = some (amFT ci k)) ∧ (∀ a, a < N → ∀ b, b < N → a ≠ b → (T a).2.1 ≠ (T b).2.1) ∧ N = (amF ci).length ∧ (∀ k, k < N → amKd ((amF ci).getD k 9) (amFT ci k))
theorem am_kd0 : ∀ k, k < 2 → amKd ((amF 0).getD k 9) (amFT 0 k) := by
  intro k hk
  match k, hk with
  | 0, _ => exact Or.inr (Or.inl ⟨rfl, rfl⟩)
  | 1, _ => exact Or.inr (Or.inl ⟨rfl, rfl⟩)
theorem am_kd1 : ∀ k, k < 2 → amKd ((amF 1).getD k 9) (amFT 1 k) := by
  intro k hk
  match k, hk with
  | 0, _ => exact Or.inr (Or.inl ⟨rfl, rfl⟩)
  | 1, _ => exact Or.inl ⟨rfl, rfl⟩
theorem am_kd2 : ∀ k, k < 1 → amKd ((amF 2).getD k 9) (amFT 2 k) := by
  intro k hk
  match k, hk with
  | 0, _ => exact Or.inr (Or.inl ⟨rfl, rfl⟩)
theorem am_kd3 : ∀ k, k < 4 → amKd ((amF 3).getD k 9) (amFT 3 k) := by
  intro k hk
  match k, hk with
  | 0, _ => exact Or.inl ⟨rfl, rfl⟩
  | 1, _ => exact Or.inl ⟨rfl, rfl⟩
  | 2, _ => exact Or.inl ⟨rfl, rfl⟩
  | 3, _ => exact Or.inl ⟨rfl, rfl⟩
theorem am_kd4 : ∀ k, k < 3 → amKd ((amF 4).getD k 9) (amFT 4 k) := by
  intro k hk
  match k, hk with
  | 0, _ => exact Or.inr (Or.inl ⟨rfl, rfl⟩)
  | 1, _ => exact Or.inr (Or.inl ⟨rfl, rfl⟩)
  | 2, _ => exact Or.inr (Or.inl ⟨rfl, rfl⟩)
theorem am_kd5 : ∀ k, k < 1 → amKd ((amF 5).getD k 9) (amFT 5 k) := by
  intro k hk
  match k, hk with
  | 0, _ => exact Or.inr (Or.inl ⟨rfl, rfl⟩)
theorem am_kd6 : ∀ k, k < 4 → amKd ((amF 6).getD k 9) (amFT 6 k) := by
  intro k hk
  match k, hk with
  | 0, _ => exact Or.inr (Or.inl ⟨rfl, rfl⟩)
  | 1, _ => exact Or.inl ⟨rfl, rfl⟩
  | 2, _ => exact Or.inr (Or.inl ⟨rfl, rfl⟩)
  | 3, _ => exact Or.inr (Or.inl ⟨rfl, rfl⟩)
theorem am_kd7 : ∀ k, k < 8 → amKd ((amF 7).getD k 9) (amFT 7 k) := by
  intro k hk
  match k, hk with
  | 0, _ => exact Or.inl ⟨rfl, rfl⟩
  | 1, _ => exact Or.inl ⟨rfl, rfl⟩
  | 2, _ => exact Or.inl ⟨rfl, rfl⟩
  | 3, _ => exact Or.inl ⟨rfl, rfl⟩
  | 4, _ => exact Or.inl ⟨rfl, rfl⟩
  | 5, _ => exact Or.inl ⟨rfl, rfl⟩
  | 6, _ => exact Or.inl ⟨rfl, rfl⟩
  | 7, _ => exact Or.inl ⟨rfl, rfl⟩
theorem am_kd8 : ∀ k, k < 10 → amKd ((amF 8).getD k 9) (amFT 8 k) := by
  intro k hk
  match k, hk with
  | 0, _ => exact Or.inr (Or.inl ⟨rfl, rfl⟩)
  | 1, _ => exact Or.inr (Or.inl ⟨rfl, rfl⟩)
  | 2, _ => exact Or.inr (Or.inl ⟨rfl, rfl⟩)
  | 3, _ => exact Or.inl ⟨rfl, rfl⟩
  | 4, _ => exact Or.inr (Or.inl ⟨rfl, rfl⟩)
  | 5, _ => exact Or.inl ⟨rfl, rfl⟩
  | 6, _ => exact Or.inl ⟨rfl, rfl⟩
  | 7, _ => exact Or.inl ⟨rfl, rfl⟩
  | 8, _ => exact Or.inl ⟨rfl, rfl⟩
  | 9, _ => exact Or.inr (Or.inl ⟨rfl, rfl⟩)
theorem am_kd9 : ∀ k, k < 6 → amKd ((amF 9).getD k 9) (amFT 9 k) := by
  intro k hk
  match k, hk with
  | 0, _ => exact Or.inr (Or.inl ⟨rfl, rfl⟩)
  | 1, _ => exact Or.inr (Or.inl ⟨rfl, rfl⟩)
  | 2, _ => exact Or.inr (Or.inl ⟨rfl, rfl⟩)
  | 3, _ => exact Or.inr (Or.inl ⟨rfl, rfl⟩)
  | 4, _ => exact Or.inr (Or.inl ⟨rfl, rfl⟩)
  | 5, _ => exact Or.inr (Or.inl ⟨rfl, rfl⟩)
theorem amCls : ∀ (ci : Nat) (C : String) (T : u_T) (N : Nat), vwCl[ci]? = some (C, T, N) → amClsOk ci C T N := by
  intro ci C T N h
  match ci, h with
  | 0, h => cases h; exact ⟨by decide, uw_all uw_X0, tyX0_ok, nmX0, rfl, am_kd0⟩
  | 1, h => cases h; exact ⟨by decide, uw_all uw_X1, tyX1_ok, nmX1, rfl, am_kd1⟩
  | 2, h => cases h; exact ⟨by decide, uw_all uw_X2, tyX2_ok, nmX2, rfl, am_kd2⟩
  | 3, h => cases h; exact ⟨by decide, uw_all uw_X3, tyX3_ok, nmX3, rfl, am_kd3⟩
  | 4, h => cases h; exact ⟨by decide, uw_all uw_X4, tyX4_ok, nmX4, rfl, am_kd4⟩
  | 5, h => cases h; exact ⟨by decide, uw_all uw_X5, tyX5_ok, nmX5, rfl, am_kd5⟩
  | 6, h => cases h; exact ⟨by decide, uw_all uw_X6, tyX6_ok, nmX6, rfl, am_kd6⟩
  | 7, h => cases h; exact ⟨by decide, uw_all uw_X7, tyX7_ok, nmX7, rfl, am_kd7⟩
  | 8, h => cases h; exact ⟨by decide, uw_all uw_X8, tyX8_ok, nmX8, rfl, am_kd8⟩
  | 9, h => cases h; exact ⟨by decide, uw_all uw_X9, tyX9_ok, nmX9, rfl, am_kd9⟩
  | k + 10, h => simp [vwCl] at h
