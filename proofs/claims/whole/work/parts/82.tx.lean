/-! ===== the class: the stages of a text ===== -/
def stA (s c : Int) : Int :=
  if s = 0 then (if 48 ≤ c ∧ c ≤ 57 then (if c = 49 then 1 else 2) else -1)
  else if s = 1 then (if 48 ≤ c ∧ c ≤ 49 then 2 else if c = 62 then 3 else -1)
  else if s = 2 then (if c = 62 then 3 else -1)
  else if s = 3 then (if 48 ≤ c ∧ c ≤ 57 then (if c = 49 then 4 else 5) else -1)
  else if s = 4 then (if 48 ≤ c ∧ c ≤ 49 then 5 else if c = 44 then 6 else -1)
  else if s = 5 then (if c = 44 then 6 else -1)
  else if s = 6 then (if 48 ≤ c ∧ c ≤ 55 then 7 else -1)
  else if s = 7 then (if c = 59 then 0 else -1)
  else -1
theorem stA_0 (c : Int) : stA 0 c = if 48 ≤ c ∧ c ≤ 57 then (if c = 49 then 1 else 2) else -1 := rfl
theorem stA_1 (c : Int) : stA 1 c = if 48 ≤ c ∧ c ≤ 49 then 2 else if c = 62 then 3 else -1 := rfl
theorem stA_2 (c : Int) : stA 2 c = if c = 62 then 3 else -1 := rfl
theorem stA_3 (c : Int) : stA 3 c = if 48 ≤ c ∧ c ≤ 57 then (if c = 49 then 4 else 5) else -1 := rfl
theorem stA_4 (c : Int) : stA 4 c = if 48 ≤ c ∧ c ≤ 49 then 5 else if c = 44 then 6 else -1 := rfl
theorem stA_5 (c : Int) : stA 5 c = if c = 44 then 6 else -1 := rfl
theorem stA_6 (c : Int) : stA 6 c = if 48 ≤ c ∧ c ≤ 55 then 7 else -1 := rfl
theorem stA_7 (c : Int) : stA 7 c = if c = 59 then 0 else -1 := rfl
theorem stA_m (c : Int) : stA (-1) c = -1 := rfl
/-- the stage that a model's state is in -/
def stg (w d v : Int) : Int := if w = 0 then (if d = 0 then 0 else if d = 1 ∧ v = 1 then 1 else 2) else if w = 1 then (if d = 0 then 3 else if d = 1 ∧ v = 1 then 4 else 5) else (if d = 0 then 6 else 7)
theorem stg_00 {v : Int} : stg 0 0 v = 0 := rfl
theorem stg_01 : stg 0 1 1 = 1 := rfl
theorem stg_02 {d v : Int} (h : d ≠ 0) (h2 : ¬ (d = 1 ∧ v = 1)) : stg 0 d v = 2 := by
  show (if d = 0 then (0 : Int) else if d = 1 ∧ v = 1 then 1 else 2) = 2
  rw [if_neg h, if_neg h2]
theorem stg_10 {v : Int} : stg 1 0 v = 3 := rfl
theorem stg_11 : stg 1 1 1 = 4 := rfl
theorem stg_12 {d v : Int} (h : d ≠ 0) (h2 : ¬ (d = 1 ∧ v = 1)) : stg 1 d v = 5 := by
  show (if d = 0 then (3 : Int) else if d = 1 ∧ v = 1 then 4 else 5) = 5
  rw [if_neg h, if_neg h2]
theorem stg_20 {v : Int} : stg 2 0 v = 6 := rfl
theorem stg_21 {d v : Int} (h : d ≠ 0) : stg 2 d v = 7 := by
  show (if d = 0 then (6 : Int) else 7) = 7
  rw [if_neg h]
theorem stA_dig {w d v g : Int} (hw : 0 ≤ w ∧ w ≤ 2) (hd : d = 0 ∨ (d = 1 ∧ 0 ≤ v ∧ v ≤ 9) ∨ (d = 2 ∧ 10 ≤ v ∧ v ≤ 11 ∧ w < 2)) (h7 : w = 2 → 0 < d → v ≤ 7) (hg : 0 ≤ g ∧ g ≤ 9) : stA (stg w d v) (g + 48) = if okD w d v g = true then stg w (d + 1) (nxD d v g) else -1 := by
  have ho : (okD w d v g = true) ↔ (nxD d v g < (if w < 2 then 12 else 8) ∧ (d = 0 ∨ 0 < v)) := ⟨fun h => of_decide_eq_true h, fun h => decide_eq_true h⟩
  rcases (by omega : w = 0 ∨ w = 1 ∨ w = 2) with e | e | e <;> subst e
  · rw [if_pos (by decide)] at ho
    rcases hd with q | q | q
    · subst q
      have hn : nxD 0 v g = g := rfl
      rw [hn] at ho
      rw [stg_00, stA_0, if_pos (by omega), if_pos (ho.mpr ⟨by omega, Or.inl rfl⟩), hn]
      by_cases u : g = 1
      · rw [if_pos (by omega), u]; exact stg_01.symm
      · rw [if_neg (by omega)]; exact (stg_02 (by decide) (by omega)).symm
    · obtain ⟨q, v0, v9⟩ := q
      subst q
      have hn : nxD 1 v g = 10 * v + g := rfl
      rw [hn] at ho ⊢
      by_cases u : v = 1
      · subst u
        rw [stg_01, stA_1]
        by_cases y : g ≤ 1
        · rw [if_pos (by omega), if_pos (ho.mpr ⟨by omega, Or.inr (by omega)⟩)]; exact (stg_02 (by decide) (by omega)).symm
        · rw [if_neg (by omega), if_neg (by omega), if_neg (fun y => by have := ho.mp y; omega)]
      · rw [stg_02 (by decide) (by omega), stA_2, if_neg (by omega), if_neg (fun y => by have := ho.mp y; omega)]
    · obtain ⟨q, v0, v9, _⟩ := q
      subst q
      have hn : nxD 2 v g = 10 * v + g := rfl
      rw [hn] at ho ⊢
      rw [stg_02 (by decide) (by omega), stA_2, if_neg (by omega), if_neg (fun y => by have := ho.mp y; omega)]
  · rw [if_pos (by decide)] at ho
    rcases hd with q | q | q
    · subst q
      have hn : nxD 0 v g = g := rfl
      rw [hn] at ho
      rw [stg_10, stA_3, if_pos (by omega), if_pos (ho.mpr ⟨by omega, Or.inl rfl⟩), hn]
      by_cases u : g = 1
      · rw [if_pos (by omega), u]; exact stg_11.symm
      · rw [if_neg (by omega)]; exact (stg_12 (by decide) (by omega)).symm
    · obtain ⟨q, v0, v9⟩ := q
      subst q
      have hn : nxD 1 v g = 10 * v + g := rfl
      rw [hn] at ho ⊢
      by_cases u : v = 1
      · subst u
        rw [stg_11, stA_4]
        by_cases y : g ≤ 1
        · rw [if_pos (by omega), if_pos (ho.mpr ⟨by omega, Or.inr (by omega)⟩)]; exact (stg_12 (by decide) (by omega)).symm
        · rw [if_neg (by omega), if_neg (by omega), if_neg (fun y => by have := ho.mp y; omega)]
      · rw [stg_12 (by decide) (by omega), stA_5, if_neg (by omega), if_neg (fun y => by have := ho.mp y; omega)]
    · obtain ⟨q, v0, v9, _⟩ := q
      subst q
      have hn : nxD 2 v g = 10 * v + g := rfl
      rw [hn] at ho ⊢
      rw [stg_12 (by decide) (by omega), stA_5, if_neg (by omega), if_neg (fun y => by have := ho.mp y; omega)]
  · rw [if_neg (by decide)] at ho
    rcases hd with q | q | q
    · subst q
      have hn : nxD 0 v g = g := rfl
      rw [hn] at ho ⊢
      rw [stg_20, stA_6]
      by_cases y : g ≤ 7
      · rw [if_pos (by omega), if_pos (ho.mpr ⟨by omega, Or.inl rfl⟩)]; exact (stg_21 (by decide)).symm
      · rw [if_neg (by omega), if_neg (fun y => by have := ho.mp y; omega)]
    · obtain ⟨q, v0, v9⟩ := q
      subst q
      have hn : nxD 1 v g = 10 * v + g := rfl
      rw [hn] at ho ⊢
      rw [stg_21 (by decide), stA_7, if_neg (by omega), if_neg (fun y => by have := ho.mp y; omega)]
    · omega
theorem stA_sep {w d v c : Int} (hw : 0 ≤ w ∧ w ≤ 2) (hd : d = 0 ∨ (d = 1 ∧ 0 ≤ v ∧ v ≤ 9) ∨ (d = 2 ∧ 10 ≤ v ∧ v ≤ 11 ∧ w < 2)) (hc : ¬ (48 ≤ c ∧ c ≤ 57)) (y : Int) : stA (stg w d v) c = if 0 < d ∧ c = sepC w then stg ((w + 1) % 3) 0 y else -1 := by
  rcases (by omega : w = 0 ∨ w = 1 ∨ w = 2) with e | e | e <;> subst e
  · have hs : sepC 0 = 62 := rfl
    rw [hs]
    rcases (by omega : d = 0 ∨ 0 < d) with q | q
    · subst q
      rw [stg_00, stA_0, if_neg hc, if_neg (by omega)]
    · rcases Decidable.em (d = 1 ∧ v = 1) with u | u
      · rw [u.1, u.2, stg_01, stA_1, if_neg (by omega)]
        by_cases x : c = 62
        · rw [if_pos x, if_pos ⟨by decide, x⟩]; rfl
        · rw [if_neg x, if_neg (fun y => x y.2)]
      · rw [stg_02 (by omega) u, stA_2]
        by_cases x : c = 62
        · rw [if_pos x, if_pos ⟨q, x⟩]; rfl
        · rw [if_neg x, if_neg (fun y => x y.2)]
  · have hs : sepC 1 = 44 := rfl
    rw [hs]
    rcases (by omega : d = 0 ∨ 0 < d) with q | q
    · subst q
      rw [stg_10, stA_3, if_neg hc, if_neg (by omega)]
    · rcases Decidable.em (d = 1 ∧ v = 1) with u | u
      · rw [u.1, u.2, stg_11, stA_4, if_neg (by omega)]
        by_cases x : c = 44
        · rw [if_pos x, if_pos ⟨by decide, x⟩]; rfl
        · rw [if_neg x, if_neg (fun y => x y.2)]
      · rw [stg_12 (by omega) u, stA_5]
        by_cases x : c = 44
        · rw [if_pos x, if_pos ⟨q, x⟩]; rfl
        · rw [if_neg x, if_neg (fun y => x y.2)]
  · have hs : sepC 2 = 59 := rfl
    rw [hs]
    rcases (by omega : d = 0 ∨ 0 < d) with q | q
    · subst q
      rw [stg_20, stA_6, if_neg (by omega), if_neg (by omega)]
    · rw [stg_21 (by omega), stA_7]
      by_cases x : c = 59
      · rw [if_pos x, if_pos ⟨q, x⟩]; rfl
      · rw [if_neg x, if_neg (fun y => x y.2)]
abbrev stgS (s : TS) : Int := stg s.1 s.2.1 (vS s)
theorem stA_tk {k : Nat} {s : TS} {c : Int} (h : pI k s) : (∀ s' : TS, tkC s c = some s' → stA (stgS s) c = stgS s') ∧ (tkC s c = none → stA (stgS s) c = -1) := by
  obtain ⟨h1, h2, h3, h4, h5, h6⟩ := h
  by_cases hc : 48 ≤ c ∧ c ≤ 57
  · have e := stA_dig h1 h4 h5 (g := c - 48) (by omega)
    rw [show c - 48 + 48 = c by omega] at e
    have ht : tkC s c = if okD s.1 s.2.1 (vS s) (c - 48) = true then some (s.1, s.2.1 + 1, s.2.2.1, uz s.2.2.2 (3 * s.2.2.1 + s.1).toNat (nxD s.2.1 (vS s) (c - 48))) else none := by
      unfold tkC
      rw [if_pos hc]
    refine ⟨fun s' hs => ?_, fun hs => ?_⟩
    · rw [ht] at hs
      split at hs
      · rename_i ho
        rw [if_pos ho] at e
        have hs := (Option.some.inj hs).symm
        subst hs
        have hv : vS (s.1, s.2.1 + 1, s.2.2.1, uz s.2.2.2 (3 * s.2.2.1 + s.1).toNat (nxD s.2.1 (vS s) (c - 48))) = nxD s.2.1 (vS s) (c - 48) := uz_same _ _ _
        show _ = stg s.1 (s.2.1 + 1) (vS _)
        rw [hv]
        exact e
      · exact absurd hs (by simp)
    · rw [ht] at hs
      split at hs
      · exact absurd hs (by simp)
      · rename_i ho
        rw [if_neg ho] at e
        exact e
  · have e := fun y => stA_sep h1 h4 hc y
    have ht : tkC s c = if 0 < s.2.1 ∧ c = sepC s.1 then some ((s.1 + 1) % 3, 0, (if s.1 = 2 then s.2.2.1 + 1 else s.2.2.1), s.2.2.2) else none := by
      unfold tkC
      rw [if_neg hc]
    refine ⟨fun s' hs => ?_, fun hs => ?_⟩
    · rw [ht] at hs
      split at hs
      · rename_i ho
        have hs := (Option.some.inj hs).symm
        subst hs
        have e := e (vS ((s.1 + 1) % 3, 0, (if s.1 = 2 then s.2.2.1 + 1 else s.2.2.1), s.2.2.2))
        rw [if_pos ho] at e
        exact e
      · exact absurd hs (by simp)
    · rw [ht] at hs
      split at hs
      · exact absurd hs (by simp)
      · rename_i ho
        have e := e 0
        rw [if_neg ho] at e
        exact e
def sgN (t : Row) : Nat → Int
  | 0 => 0
  | n + 1 => stA (sgN t n) (t n)
theorem sgN_s (t : Row) (n : Nat) : sgN t (n + 1) = stA (sgN t n) (t n) := rfl
theorem sgN_is (t r0 : Row) : ∀ n : Nat, (∀ s : TS, pS t r0 n = some s → sgN t n = stgS s) ∧ (pS t r0 n = none → sgN t n = -1) := by
  intro n
  induction n with
  | zero =>
    refine ⟨fun s hs => ?_, fun hs => absurd hs (by simp [pS])⟩
    have hs := (Option.some.inj hs).symm
    subst hs
    rfl
  | succ n ih =>
    rw [pS_s, sgN_s]
    cases h : pS t r0 n with
    | none =>
      refine ⟨fun s hs => absurd hs (by simp), fun _ => ?_⟩
      rw [ih.2 h]
      exact stA_m _
    | some s0 =>
      have hp := pS_inv n s0 h
      have ht := stA_tk (c := t n) hp
      rw [ih.1 s0 h]
      exact ht
theorem stg_b {w d v : Int} : 0 ≤ stg w d v ∧ stg w d v ≤ 7 := by
  unfold stg
  repeat' split
  all_goals omega
theorem stg_7 {w d v : Int} (hw : 0 ≤ w ∧ w ≤ 2) : stg w d v = 7 ↔ w = 2 ∧ d ≠ 0 := by
  unfold stg
  repeat' split
  all_goals omega
/-- where reading ends is one place alone -/
theorem end_uniq {t r0 : Row} {k j : Nat} {s : TS} (h1 : pS t r0 k = some s) (hk : k ≤ j) (h2 : ∀ i : Nat, i ≤ j → sgN t i ≠ -1) (h3 : k = j ∨ pS t r0 (k + 1) = none) : k = j := by
  rcases h3 with h | h
  · exact h
  · rcases Nat.lt_or_ge k j with q | q
    · exact absurd ((sgN_is t r0 (k + 1)).2 h) (h2 (k + 1) (by omega))
    · omega
