/-! ===== the model: texts ===== -/
/-- what is read next (which, digits, orders) and what has been read -/
def txH (I : Nat → Nat → Int) (w d o : Int) (r : Row) : Nat → Nat → Int := fun a => if a = 368 then r else if a = 361 then (fun k => if k = 9 then w else if k = 10 then d else if k = 11 then o else I 361 k) else I a
theorem txH_r (I : Nat → Nat → Int) (w d o : Int) (r : Row) : txH I w d o r 368 = r := rfl
theorem txH_9 (I : Nat → Nat → Int) (w d o : Int) (r : Row) : txH I w d o r 361 9 = w := rfl
theorem txH_10 (I : Nat → Nat → Int) (w d o : Int) (r : Row) : txH I w d o r 361 10 = d := rfl
theorem txH_11 (I : Nat → Nat → Int) (w d o : Int) (r : Row) : txH I w d o r 361 11 = o := rfl
theorem txH_f (I : Nat → Nat → Int) (w d o : Int) (r : Row) {k : Nat} (h : k ≠ 9 ∧ k ≠ 10 ∧ k ≠ 11) : txH I w d o r 361 k = I 361 k := by
  show (if k = 9 then w else if k = 10 then d else if k = 11 then o else I 361 k) = _
  rw [if_neg h.1, if_neg h.2.1, if_neg h.2.2]
theorem txH_o (I : Nat → Nat → Int) (w d o : Int) (r : Row) {a : Nat} (h : a ≠ 368 ∧ a ≠ 361) : txH I w d o r a = I a := by
  unfold txH
  rw [if_neg h.1, if_neg h.2]
theorem u2_txH_9 (I : Nat → Nat → Int) (w d o : Int) (r : Row) (v : Int) : u2 (txH I w d o r) 361 9 v = txH I v d o r := funext (fun a => by
  by_cases h1 : a = 361
  · rw [h1, u2_at]
    funext k
    show (if k = 9 then v else if k = 9 then w else if k = 10 then d else if k = 11 then o else I 361 k) = (if k = 9 then v else if k = 10 then d else if k = 11 then o else I 361 k)
    by_cases e : k = 9
    · rw [if_pos e, if_pos e]
    · simp only [if_neg e]
  · rw [u2_off _ _ _ h1]
    unfold txH
    rw [if_neg h1, if_neg h1])
theorem u2_txH_10 (I : Nat → Nat → Int) (w d o : Int) (r : Row) (v : Int) : u2 (txH I w d o r) 361 10 v = txH I w v o r := funext (fun a => by
  by_cases h1 : a = 361
  · rw [h1, u2_at]
    funext k
    show (if k = 10 then v else if k = 9 then w else if k = 10 then d else if k = 11 then o else I 361 k) = (if k = 9 then w else if k = 10 then v else if k = 11 then o else I 361 k)
    by_cases e : k = 10
    · rw [if_pos e, if_neg (show ¬ k = 9 by omega), if_pos e]
    · simp only [if_neg e]
  · rw [u2_off _ _ _ h1]
    unfold txH
    rw [if_neg h1, if_neg h1])
theorem u2_txH_11 (I : Nat → Nat → Int) (w d o : Int) (r : Row) (v : Int) : u2 (txH I w d o r) 361 11 v = txH I w d v r := funext (fun a => by
  by_cases h1 : a = 361
  · rw [h1, u2_at]
    funext k
    show (if k = 11 then v else if k = 9 then w else if k = 10 then d else if k = 11 then o else I 361 k) = (if k = 9 then w else if k = 10 then d else if k = 11 then v else I 361 k)
    by_cases e : k = 11
    · rw [if_pos e, if_neg (show ¬ k = 9 by omega), if_neg (show ¬ k = 10 by omega), if_pos e]
    · simp only [if_neg e]
  · rw [u2_off _ _ _ h1]
    unfold txH
    rw [if_neg h1, if_neg h1])
theorem u2_txH_r (I : Nat → Nat → Int) (w d o : Int) (r : Row) (k : Nat) (v : Int) : u2 (txH I w d o r) 368 k v = txH I w d o (uz r k v) := funext (fun a => by
  by_cases h : a = 368
  · rw [h, u2_at]; rfl
  · rw [u2_off _ _ _ h]; unfold txH; rw [if_neg h, if_neg h])
theorem txH_self (I : Nat → Nat → Int) : txH I (I 361 9) (I 361 10) (I 361 11) (I 368) = I := funext (fun a => by
  unfold txH
  split
  · rename_i h; rw [h]
  · split
    · rename_i h
      rw [h]
      funext k
      split
      · rename_i e; rw [e]
      · split
        · rename_i e; rw [e]
        · split
          · rename_i e; rw [e]
          · rfl
    · rfl)
/-- the number that a digit would make -/
def nxD (d : Int) (v g : Int) : Int := if d = 0 then g else 10 * v + g
def okD (w d v g : Int) : Bool := decide (nxD d v g < (if w < 2 then 12 else 8) ∧ (d = 0 ∨ 0 < v))
abbrev TS : Type := Int × Int × Int × Row
/-- the sign that ends a number -/
def sepC (w : Int) : Int := if w = 0 then 62 else if w = 1 then 44 else 59
/-- a character more; none if it is refused -/
def tkC (s : TS) (c : Int) : Option TS :=
  if 48 ≤ c ∧ c ≤ 57 then (if okD s.1 s.2.1 (s.2.2.2 (3 * s.2.2.1 + s.1).toNat) (c - 48) = true then some (s.1, s.2.1 + 1, s.2.2.1, uz s.2.2.2 (3 * s.2.2.1 + s.1).toNat (nxD s.2.1 (s.2.2.2 (3 * s.2.2.1 + s.1).toNat) (c - 48))) else none)
  else if 0 < s.2.1 ∧ c = sepC s.1 then some ((s.1 + 1) % 3, 0, (if s.1 = 2 then s.2.2.1 + 1 else s.2.2.1), s.2.2.2) else none
def pS (t : Row) (r0 : Row) : Nat → Option TS
  | 0 => some (0, 0, 0, r0)
  | k + 1 => (pS t r0 k).bind (fun s => tkC s (t k))
theorem pS_s (t r0 : Row) (k : Nat) : pS t r0 (k + 1) = (pS t r0 k).bind (fun s => tkC s (t k)) := rfl
/-- the number that stands where digits are read -/
abbrev vS (s : TS) : Int := s.2.2.2 (3 * s.2.2.1 + s.1).toNat
def pI (k : Nat) (s : TS) : Prop := (0 ≤ s.1 ∧ s.1 ≤ 2) ∧ 0 ≤ s.2.2.1 ∧ 6 * s.2.2.1 + 2 * s.1 + (if 0 < s.2.1 then 1 else 0) ≤ k ∧
  (s.2.1 = 0 ∨ (s.2.1 = 1 ∧ 0 ≤ vS s ∧ vS s ≤ 9) ∨ (s.2.1 = 2 ∧ 10 ≤ vS s ∧ vS s ≤ 11 ∧ s.1 < 2)) ∧ (s.1 = 2 → 0 < s.2.1 → vS s ≤ 7) ∧
  ∀ j : Nat, (j : Int) < 3 * s.2.2.1 + s.1 → 0 ≤ s.2.2.2 j ∧ s.2.2.2 j ≤ (if j % 3 = 2 then 7 else 11)
theorem pI_tk {k : Nat} {s s' : TS} {c : Int} (h : pI k s) (e : tkC s c = some s') : pI (k + 1) s' := by
  obtain ⟨h1, h2, h3, h4, h5, h6⟩ := h
  unfold tkC at e
  split at e
  · rename_i hc
    split at e
    · rename_i ho
      have ho := of_decide_eq_true ho
      have e := (Option.some.inj e).symm
      subst e
      have hv : vS (s.1, s.2.1 + 1, s.2.2.1, uz s.2.2.2 (3 * s.2.2.1 + s.1).toNat (nxD s.2.1 (vS s) (c - 48))) = nxD s.2.1 (vS s) (c - 48) := uz_same _ _ _
      unfold pI
      rw [hv]
      unfold nxD at ho ⊢
      refine ⟨h1, h2, ?_, ?_, ?_, fun j hj => ?_⟩
      · show 6 * s.2.2.1 + 2 * s.1 + (if 0 < s.2.1 + 1 then 1 else 0) ≤ ((k + 1 : Nat) : Int)
        split at h3 <;> split <;> omega
      · show s.2.1 + 1 = 0 ∨ (s.2.1 + 1 = 1 ∧ _) ∨ (s.2.1 + 1 = 2 ∧ _ ∧ _ ∧ s.1 < 2)
        unfold vS at *
        split at ho <;> split at ho <;> (try rw [if_pos (by assumption)]) <;> (try rw [if_neg (by assumption)]) <;> omega
      · show s.1 = 2 → 0 < s.2.1 + 1 → _
        intro w2 _
        rw [if_neg (show ¬ s.1 < 2 by omega)] at ho
        unfold vS at *
        omega
      · have hj : (j : Int) < 3 * s.2.2.1 + s.1 := hj
        show 0 ≤ uz _ _ _ j ∧ uz _ _ _ j ≤ _
        rw [uz_ne _ _ (by omega)]
        exact h6 j hj
    · exact absurd e (by simp)
  · split at e
    · rename_i hc hd
      have e := (Option.some.inj e).symm
      subst e
      have hv : 0 ≤ vS s ∧ vS s ≤ (if s.1 = 2 then 7 else 11) := by
        split <;> omega
      have h6' : ∀ j : Nat, (j : Int) < 3 * s.2.2.1 + s.1 + 1 → 0 ≤ s.2.2.2 j ∧ s.2.2.2 j ≤ (if j % 3 = 2 then 7 else 11) := fun j hj => by
        rcases (by omega : (j : Int) < 3 * s.2.2.1 + s.1 ∨ j = (3 * s.2.2.1 + s.1).toNat) with q | q
        · exact h6 j q
        · have hv' := hv
          unfold vS at hv'
          rw [← q] at hv'
          by_cases m : s.1 = 2
          · rw [if_pos m] at hv'
            rw [if_pos (by omega)]
            exact hv'
          · rw [if_neg m] at hv'
            rw [if_neg (by omega)]
            exact hv'
      rw [if_pos hd.1] at h3
      refine ⟨?_, ?_, ?_, Or.inl rfl, ?_, fun j hj => ?_⟩
      · show 0 ≤ (s.1 + 1) % 3 ∧ (s.1 + 1) % 3 ≤ 2
        omega
      · show 0 ≤ (if s.1 = 2 then s.2.2.1 + 1 else s.2.2.1)
        split <;> omega
      · show 6 * (if s.1 = 2 then s.2.2.1 + 1 else s.2.2.1) + 2 * ((s.1 + 1) % 3) + (if (0 : Int) < 0 then 1 else 0) ≤ ((k + 1 : Nat) : Int)
        rw [if_neg (show ¬ (0 : Int) < 0 by omega)]
        split <;> omega
      · show (s.1 + 1) % 3 = 2 → (0 : Int) < 0 → _
        intro _ w; omega
      · have hj : (j : Int) < 3 * (if s.1 = 2 then s.2.2.1 + 1 else s.2.2.1) + (s.1 + 1) % 3 := hj
        refine h6' j ?_
        split at hj <;> omega
    · exact absurd e (by simp)
theorem pS_inv {t r0 : Row} : ∀ (k : Nat) (s : TS), pS t r0 k = some s → pI k s := by
  intro k
  induction k with
  | zero =>
    intro s e
    have e := (Option.some.inj e).symm
    subst e
    refine ⟨?_, ?_, ?_, Or.inl rfl, ?_, fun j hj => ?_⟩
    · show 0 ≤ (0 : Int) ∧ (0 : Int) ≤ 2; decide
    · show 0 ≤ (0 : Int); decide
    · show 6 * (0 : Int) + 2 * 0 + (if (0 : Int) < 0 then 1 else 0) ≤ ((0 : Nat) : Int); decide
    · show (0 : Int) = 2 → _; intro w; omega
    · have hj : (j : Int) < 3 * 0 + 0 := hj
      omega
  | succ k ih =>
    intro s e
    rw [pS_s] at e
    cases h : pS t r0 k with
    | none => rw [h] at e; exact absurd e (by simp)
    | some s0 => rw [h] at e; exact pI_tk (ih s0 h) e
