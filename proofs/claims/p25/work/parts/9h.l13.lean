/-! ===== when all is made ===== -/
def z0W : Row := fun j => if j = 97 then 95 else 0
theorem z0_0 {j : Nat} (h : j ≠ 97) : z0W j = 0 := if_neg h
theorem z0_97 : z0W 97 = 95 := rfl
theorem r9_w : [1, 50, 101, 150, 199, 248, 297].all (fun b => decide (r9 b 0 = some (b + 1)) && decide (r9 b 1 = some (b + 3)) && decide (r9 b 2 = some (b + 4)) && decide (r9 b 4 = some (b + 5)) && decide (r9 b 9 = some (b + 6)) && decide (r9 (b + 1) 0 = some (b + 2)) && (List.range 12).all (fun i => decide (r9 (b + 4) i = some (b + 7 + i))) && (List.range 30).all (fun i => decide (r9 (b + 5) i = some (b + 19 + i)))) = true := by decide +kernel
theorem r9_RW {b : Nat} (h : wb b) : RW r9 b := by
  have hm : b ∈ [1, 50, 101, 150, 199, 248, 297] := by
    rcases h with h | h | h | h | h | h | h <;> subst h <;> decide
  have q := List.all_eq_true.mp r9_w b hm
  simp only [Bool.and_eq_true, decide_eq_true_eq, List.all_eq_true, List.mem_range] at q
  obtain ⟨⟨⟨⟨⟨⟨⟨q1, q2⟩, q3⟩, q4⟩, q5⟩, q6⟩, q7⟩, q8⟩ := q
  exact ⟨⟨q1, q2, q3, q4, q5, q6⟩, fun i hi => q7 i hi, fun i hi => q8 i hi⟩
theorem r9_RK : RK r9 := by
  refine ⟨by decide +kernel, fun b hb => r9_RW hb, ⟨by decide +kernel, by decide +kernel, by decide +kernel⟩, ⟨by decide +kernel, by decide +kernel, by decide +kernel⟩, ⟨by decide +kernel, by decide +kernel⟩, by decide +kernel, ⟨by decide +kernel, by decide +kernel, by decide +kernel⟩, ⟨by decide +kernel, by decide +kernel, by decide +kernel, by decide +kernel, by decide +kernel, by decide +kernel⟩⟩
def sW (i : Nat) : Nat := 101 + 49 * i
theorem r9_HS : HS r9 sW := by
  refine ⟨fun i hi => ?_, fun i j hi hj e => ?_⟩
  · rcases (by omega : i = 0 ∨ i = 1 ∨ i = 2 ∨ i = 3 ∨ i = 4) with q | q | q | q | q <;> subst q
    · exact ⟨by decide +kernel, Or.inl rfl⟩
    · exact ⟨by decide +kernel, Or.inr (Or.inl rfl)⟩
    · exact ⟨by decide +kernel, Or.inr (Or.inr (Or.inl rfl))⟩
    · exact ⟨by decide +kernel, Or.inr (Or.inr (Or.inr (Or.inl rfl)))⟩
    · exact ⟨by decide +kernel, Or.inr (Or.inr (Or.inr (Or.inr rfl)))⟩
  · unfold sW at e
    omega
theorem z0_WF : WF (z0W) := by
  have e98 : z0W 98 = 0 := z0_0 (by decide)
  have e195 : z0W 195 = 0 := z0_0 (by decide)
  have e316 : z0W 316 = 0 := z0_0 (by decide)
  refine ⟨⟨fun j hj => ?_, ?_, fun k hk => ?_, fun k l hk _ _ _ _ => ?_, ?_, fun k hk => ?_⟩, ⟨?_, fun k hk => ?_⟩, ?_, ?_, ?_, ?_, ?_, fun l hl => ?_⟩
  · rw [z0_0 (by omega)]; exact ⟨by decide, by decide⟩
  · unfold wfN; rw [e98]; exact ⟨by decide, by decide⟩
  · exfalso; omega
  · exfalso; omega
  · unfold wfG isC
    rw [z0_0 (by decide), z0_97]
    exact ⟨⟨by decide, by decide⟩, by decide, by decide⟩
  · exfalso; omega
  · rw [e195]; exact ⟨by decide, by decide⟩
  · exfalso; omega
  · rw [e316]; exact ⟨by decide, by decide⟩
  · rw [z0_0 (by decide)]; exact ⟨by decide, by decide⟩
  · rw [e316, z0_0 (by decide)]; exact ⟨by decide, by decide⟩
  · rw [e316, z0_0 (by decide)]; exact ⟨by decide, by decide⟩
  · rw [e316, z0_0 (by decide)]; exact ⟨by decide, by decide⟩
  · have e : tf (z0W) l 7 = 0 := z0_0 (by omega)
    rw [e, e316]; exact ⟨by decide, by decide⟩
theorem i9_h : (List.range 96).all (fun j => decide (i9c 3 j = 0)) = true := by decide +kernel
theorem i9_WV : WV i9c 1 (z0W) := by
  refine ⟨fun j hj => ?_, ⟨?_, ?_⟩, ?_, ?_, ?_, ?_, ?_, ⟨?_, ?_⟩, fun k f hk _ => ?_⟩
  · rw [z0_0 (by omega)]
    exact of_decide_eq_true (List.all_eq_true.mp i9_h j (List.mem_range.mpr hj))
  · rw [z0_0 (by decide)]; decide +kernel
  · rw [z0_97]; decide +kernel
  · rw [z0_0 (by decide)]; decide +kernel
  · rw [z0_0 (by decide)]; decide +kernel
  · rw [z0_0 (by decide)]; decide +kernel
  · rw [z0_0 (by decide)]; decide +kernel
  · rw [z0_0 (by decide)]; decide +kernel
  · rw [z0_0 (by decide)]; decide +kernel
  · rw [z0_0 (by decide)]; decide +kernel
  · rw [z0_0 (by decide)] at hk
    exfalso; omega
theorem i9_WO : WO i9c 1 (z0W) := by
  unfold WO
  rw [z0_0 (by decide)]
  rfl
theorem i9_CS : CS i9c r9 (z0W) 0 (fun _ _ => 0) := by
  refine ⟨i9_WV, i9_WO, by decide +kernel, ⟨by decide, by decide⟩, ⟨sW, r9_HS, fun i hi => ?_⟩, fun t _ => zIc 354 (by decide) t⟩
  exfalso; omega
theorem s9_len : s9.length = 361 := by decide +kernel
/-- the cliff -/
theorem cl_v : (shZ z0W 8 95 9 88).2 = 32 := by decide +kernel
theorem cl_w : (List.range 96).all (fun j => decide ((shZ z0W 8 95 9 88).1 j = if j % 12 < 8 then 0 else 9)) = true := by decide +kernel
def z2W : Row := uz (shZ z0W 8 95 9 88).1 97 91
theorem cl_WF : WF (shZ z0W 8 95 9 88).1 ∧ ∀ i : Nat, 96 ≤ i → (shZ z0W 8 95 9 88).1 i = z0W i := sh_WF (u := 8) (v := 95) (w := 9) z0_WF (by decide)
theorem cl_ZF : ZF (shZ z0W 8 95 9 88).1 := ⟨cl_WF.1, by rw [cl_WF.2 316 (by decide)]; decide, by rw [cl_WF.2 317 (by decide)]; decide⟩
theorem z2_WF : WF z2W := mg_WF (u := 1) (v := 91) cl_WF.1 (by decide)
theorem z2_at {i : Nat} (h : 96 ≤ i) (h2 : i ≠ 97) : z2W i = 0 := by
  unfold z2W
  rw [uz_ne _ _ h2, cl_WF.2 i h, z0_0 h2]
theorem z2_f {j : Nat} (h : j < 96) : z2W j = if j % 12 < 8 then 0 else 9 := by
  unfold z2W
  rw [uz_ne _ _ (by omega)]
  exact of_decide_eq_true (List.all_eq_true.mp cl_w j (List.mem_range.mpr h))
theorem z2_LZ {J : Nat → Nat → Int} (h1 : ∀ j : Nat, J 361 j = 0) (h2 : ∀ j : Nat, J 364 j = if j = 8 then 63 else 0) : LZ J 362 363 364 z2W := by
  have e98 : z2W 98 = 0 := z2_at (by decide) (by decide)
  have e195 : z2W 195 = 0 := z2_at (by decide) (by decide)
  have e96 : z2W 96 = 0 := z2_at (by decide) (by decide)
  have e97 : z2W 97 = 91 := uz_same _ _ _
  refine ⟨⟨fun c hc => ?_, fun j hj hj8 => ?_⟩, fun k k0 k1 => ?_, fun k k0 k1 => ?_, ?_, by rw [e98]; decide, by rw [e195]; decide⟩
  · have hb := bg_in hc
    unfold inL at hb
    rw [h1, z2_f (by omega), if_pos (by omega)]
    decide
  · rw [z2_f hj, if_neg (by omega)]
  · rw [e98] at k1; exfalso; omega
  · rw [e195] at k1; exfalso; omega
  · unfold ED
    rw [h2, h2, h2, h2, h2, h2, h2, h2, h2, e98, e195, e96, e97, z2_at (i := 316) (by decide) (by decide), z2_at (i := 317) (by decide) (by decide), z2_at (i := 318) (by decide) (by decide), z2_at (i := 319) (by decide) (by decide), z2_at (i := 320) (by decide) (by decide)]
    unfold inL
    decide
theorem an_m2 (y : Int) : ∃ X : Int, (Int32.ofInt y &&& Int32.ofInt (2147483647 : Int)).toInt = X ∧ 0 ≤ X ∧ X ≤ 2147483647 := ⟨_, rfl, an_m _, (amI_in _).2⟩
theorem K_cell {G : amG} {h : amH} {Q : amR → amH → Prop} (hG : amG0 G) {k : Int} (hk : 0 ≤ k ∧ k ≤ 100000) (hQ : ∀ r : Int, Q (Sum.inl (some (aI r))) (hGive h 0 0)) : CT G sL_cell [aO (gb G), aI k] h Q := by
  refine CT_of ok_L_cell hG (Nat.le_of_ble_eq_true rfl) ?_
  show X G mL_cell Q 0 [some (aO (gb G)), some (aI k)] [] (h.1, h.2.1, h.2.2.1, h.2.2.2.1, h.2.2.2.2.1, 0, 0)
  exact B_L_cell_0 ⟨rfl, fun _ => B_L_cell_12 ⟨⟨by omega, by omega⟩, B_L_cell_18 (hQ _)⟩, fun q => ⟨rfl, ⟨by omega, by omega⟩, B_L_cell_18 (hQ _)⟩⟩
