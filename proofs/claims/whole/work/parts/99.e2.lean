/-! ===== when all is made ===== -/
def iW : Nat → Nat → Int := u2 i9c 362 97 95
def rW : Nat → Nat → Option Nat := u2 (u2 (u2 (u2 (u2 (u2 (u2 r9 361 1 (some 362)) 361 3 (some 363)) 361 5 (some 364)) 361 6 (some 365)) 361 7 (some 366)) 361 8 (some 367)) 361 12 (some 368)
theorem rW_w : [1, 50, 101, 150, 199, 248, 297].all (fun b => decide (rW b 0 = some (b + 1)) && decide (rW b 1 = some (b + 3)) && decide (rW b 2 = some (b + 4)) && decide (rW b 4 = some (b + 5)) && decide (rW b 9 = some (b + 6)) && decide (rW (b + 1) 0 = some (b + 2)) && (List.range 12).all (fun i => decide (rW (b + 4) i = some (b + 7 + i))) && (List.range 30).all (fun i => decide (rW (b + 5) i = some (b + 19 + i)))) = true := by decide +kernel
theorem rW_RW {b : Nat} (h : wb b) : RW rW b := by
  have hm : b ∈ [1, 50, 101, 150, 199, 248, 297] := by
    rcases h with h | h | h | h | h | h | h <;> subst h <;> decide
  have q := List.all_eq_true.mp rW_w b hm
  simp only [Bool.and_eq_true, decide_eq_true_eq, List.all_eq_true, List.mem_range] at q
  obtain ⟨⟨⟨⟨⟨⟨⟨q1, q2⟩, q3⟩, q4⟩, q5⟩, q6⟩, q7⟩, q8⟩ := q
  exact ⟨⟨q1, q2, q3, q4, q5, q6⟩, fun i hi => q7 i hi, fun i hi => q8 i hi⟩
theorem rW_RK : RK rW := by
  refine ⟨by decide +kernel, fun b hb => rW_RW hb, ⟨by decide +kernel, by decide +kernel, by decide +kernel⟩, ⟨by decide +kernel, by decide +kernel, by decide +kernel⟩, ⟨by decide +kernel, by decide +kernel⟩, by decide +kernel, ⟨by decide +kernel, by decide +kernel, by decide +kernel⟩, ⟨by decide +kernel, by decide +kernel, by decide +kernel, by decide +kernel, by decide +kernel, by decide +kernel⟩, ⟨by decide +kernel, by decide +kernel, by decide +kernel, by decide +kernel, by decide +kernel, by decide +kernel, by decide +kernel⟩⟩
def sW (i : Nat) : Nat := 101 + 49 * i
theorem rW_HS : HS rW sW := by
  refine ⟨fun i hi => ?_, fun i j hi hj e => ?_⟩
  · rcases (by omega : i = 0 ∨ i = 1 ∨ i = 2 ∨ i = 3 ∨ i = 4) with q | q | q | q | q <;> subst q
    · exact ⟨by decide +kernel, Or.inl rfl⟩
    · exact ⟨by decide +kernel, Or.inr (Or.inl rfl)⟩
    · exact ⟨by decide +kernel, Or.inr (Or.inr (Or.inl rfl))⟩
    · exact ⟨by decide +kernel, Or.inr (Or.inr (Or.inr (Or.inl rfl)))⟩
    · exact ⟨by decide +kernel, Or.inr (Or.inr (Or.inr (Or.inr rfl)))⟩
  · unfold sW at e
    omega
theorem iW_hi {a : Nat} (h : 346 ≤ a) (h2 : a ≠ 362) (j : Nat) : iW a j = 0 := by
  unfold iW
  rw [u2_off _ _ _ h2]
  exact zIc a h j
theorem iW_z (j : Nat) : iW 362 j = if j = 97 then 95 else 0 := by
  unfold iW
  rw [u2_at]
  unfold uz
  split
  · rfl
  · exact zIc 362 (by decide) j
theorem iW_z0 {j : Nat} (h : j ≠ 97) : iW 362 j = 0 := by
  rw [iW_z, if_neg h]
theorem iW_z97 : iW 362 97 = 95 := by
  rw [iW_z, if_pos rfl]
theorem iW_WF : WF (iW 362) := by
  have e98 : iW 362 98 = 0 := iW_z0 (by decide)
  have e195 : iW 362 195 = 0 := iW_z0 (by decide)
  have e316 : iW 362 316 = 0 := iW_z0 (by decide)
  refine ⟨⟨fun j hj => ?_, ?_, fun k hk => ?_, fun k l hk _ _ _ _ => ?_, ?_, fun k hk => ?_⟩, ⟨?_, fun k hk => ?_⟩, ?_, ?_, ?_, ?_, ?_, fun l hl => ?_⟩
  · rw [iW_z0 (by omega)]; exact ⟨by decide, by decide⟩
  · unfold wfN; rw [e98]; exact ⟨by decide, by decide⟩
  · exfalso; omega
  · exfalso; omega
  · unfold wfG isC
    rw [iW_z0 (by decide), iW_z97]
    exact ⟨⟨by decide, by decide⟩, by decide, by decide⟩
  · exfalso; omega
  · rw [e195]; exact ⟨by decide, by decide⟩
  · exfalso; omega
  · rw [e316]; exact ⟨by decide, by decide⟩
  · rw [iW_z0 (by decide)]; exact ⟨by decide, by decide⟩
  · rw [e316, iW_z0 (by decide)]; exact ⟨by decide, by decide⟩
  · rw [e316, iW_z0 (by decide)]; exact ⟨by decide, by decide⟩
  · rw [e316, iW_z0 (by decide)]; exact ⟨by decide, by decide⟩
  · have e : tf (iW 362) l 7 = 0 := iW_z0 (by omega)
    rw [e, e316]; exact ⟨by decide, by decide⟩
theorem iW_h : (List.range 96).all (fun j => decide (iW 3 j = 0)) = true := by decide +kernel
theorem iW_WV : WV iW 1 (iW 362) := by
  refine ⟨fun j hj => ?_, ⟨?_, ?_⟩, ?_, ?_, ?_, ?_, ?_, ⟨?_, ?_⟩, fun k f hk _ => ?_⟩
  · rw [iW_z0 (by omega)]
    exact of_decide_eq_true (List.all_eq_true.mp iW_h j (List.mem_range.mpr hj))
  · rw [iW_z0 (by decide)]; decide +kernel
  · rw [iW_z97]; decide +kernel
  · rw [iW_z0 (by decide)]; decide +kernel
  · rw [iW_z0 (by decide)]; decide +kernel
  · rw [iW_z0 (by decide)]; decide +kernel
  · rw [iW_z0 (by decide)]; decide +kernel
  · rw [iW_z0 (by decide)]; decide +kernel
  · rw [iW_z0 (by decide)]; decide +kernel
  · rw [iW_z0 (by decide)]; decide +kernel
  · rw [iW_z0 (by decide)] at hk
    exfalso; omega
theorem iW_WO : WO iW 1 (iW 362) := by
  unfold WO
  rw [iW_z0 (by decide)]
  rfl
theorem iW_CS : CS iW rW (iW 362) 0 (fun _ _ => 0) := by
  refine ⟨iW_WV, iW_WO, by decide +kernel, ⟨by decide, by decide⟩, ⟨sW, rW_HS, fun i hi => ?_⟩, fun t _ => iW_hi (by decide) (by decide) t⟩
  exfalso; omega
theorem iW_LI : LI 0 iW rW := by
  have e361 : ∀ j : Nat, iW 361 j = 0 := fun j => iW_hi (by decide) (by decide) j
  refine ⟨fun _ _ => 0, rW_RK, ?_, ⟨iW_WF, ?_, ?_⟩, fun i hi => ?_, ?_, ?_, ?_, fun j _ => ?_⟩
  · rw [e361]; exact iW_CS
  · rw [iW_z0 (by decide)]; decide
  · rw [iW_z0 (by decide)]; decide
  · rw [e361] at hi; exfalso; omega
  · exact funext (fun j => (iW_hi (by decide) (by decide) j).trans (iW_hi (by decide) (by decide) j).symm)
  · rw [e361]; exact iW_hi (by decide) (by decide) 1
  · rw [e361]; exact ⟨by decide, by decide⟩
  · rw [iW_hi (by decide) (by decide)]; exact ⟨by decide, by decide⟩
theorem s9_len : s9.length = 361 := by decide +kernel
theorem sW_SH : s9 ++ [(10, 0)] ++ [(20, 321)] ++ [(20, 1605)] ++ [(20, 60)] ++ [(20, 96)] ++ [(20, 96)] ++ [(20, 321)] ++ [(20, 45)] ++ [(21, 1)] = SH := by decide +kernel
