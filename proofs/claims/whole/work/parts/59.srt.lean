/-! ===== orders by the turn in which they come, then by their numbers ===== -/
abbrev due (d : OD) : Int := d.2.2.2
/-- behind all that come no later -/
def insR : List OD → OD → List OD
  | [], x => [x]
  | d :: l, x => if due d ≤ due x then d :: insR l x else x :: d :: l
theorem insR_c (d : OD) (l : List OD) (x : OD) : insR (d :: l) x = if due d ≤ due x then d :: insR l x else x :: d :: l := rfl
def srt (l : List OD) : List OD := l.foldl insR []
theorem srt_snoc (l : List OD) (x : OD) : srt (l ++ [x]) = insR (srt l) x := by
  unfold srt
  rw [List.foldl_append]
  rfl
def sdL : List OD → Prop
  | [] => True
  | d :: l => (∀ e : OD, e ∈ l → due d ≤ due e) ∧ sdL l
theorem insR_mem {l : List OD} {x e : OD} : e ∈ insR l x ↔ e = x ∨ e ∈ l := by
  induction l with
  | nil => simp [insR]
  | cons d l ih =>
    rw [insR_c]
    split
    · rw [List.mem_cons, ih, List.mem_cons]
      exact ⟨fun h => by rcases h with h | h | h; exact Or.inr (Or.inl h); exact Or.inl h; exact Or.inr (Or.inr h), fun h => by rcases h with h | h | h; exact Or.inr (Or.inl h); exact Or.inl h; exact Or.inr (Or.inr h)⟩
    · rw [List.mem_cons]
theorem insR_len (l : List OD) (x : OD) : (insR l x).length = l.length + 1 := by
  induction l with
  | nil => rfl
  | cons d l ih =>
    rw [insR_c]
    split
    · rw [List.length_cons, ih, List.length_cons]
    · rw [List.length_cons]
theorem insR_sd {l : List OD} {x : OD} (h : sdL l) : sdL (insR l x) := by
  induction l with
  | nil => exact ⟨fun e he => absurd he (by simp), trivial⟩
  | cons d l ih =>
    rw [insR_c]
    split
    · rename_i q
      refine ⟨fun e he => ?_, ih h.2⟩
      rcases insR_mem.mp he with u | u
      · rw [u]; exact q
      · exact h.1 e u
    · rename_i q
      refine ⟨fun e he => ?_, h⟩
      rcases List.mem_cons.mp he with u | u
      · rw [u]; omega
      · have := h.1 e u; omega
/-- how many come at t or before -/
def cL : List OD → Int → Nat
  | [], _ => 0
  | d :: l, t => if due d ≤ t then cL l t + 1 else cL l t
theorem cL_c (d : OD) (l : List OD) (t : Int) : cL (d :: l) t = if due d ≤ t then cL l t + 1 else cL l t := rfl
theorem cL_le (l : List OD) (t : Int) : cL l t ≤ l.length := by
  induction l with
  | nil => exact Nat.le_refl _
  | cons d l ih => rw [cL_c, List.length_cons]; split <;> omega
theorem cL_0 {l : List OD} {t : Int} (h : ∀ e : OD, e ∈ l → t < due e) : cL l t = 0 := by
  induction l with
  | nil => rfl
  | cons d l ih =>
    rw [cL_c, if_neg (by have := h d (List.mem_cons_self); omega)]
    exact ih (fun e he => h e (List.mem_cons_of_mem _ he))
theorem cL_ins (l : List OD) (x : OD) (t : Int) : cL (insR l x) t = cL l t + (if due x ≤ t then 1 else 0) := by
  induction l with
  | nil =>
    show cL [x] t = _
    rw [cL_c]
    show (if due x ≤ t then 0 + 1 else 0) = 0 + _
    split <;> rfl
  | cons d l ih =>
    rw [insR_c]
    split
    · rw [cL_c, cL_c, ih]
      split <;> omega
    · rw [cL_c x, cL_c]
      split <;> split <;> omega
theorem cL_snoc (l : List OD) (x : OD) (t : Int) : cL (l ++ [x]) t = cL l t + (if due x ≤ t then 1 else 0) := by
  induction l with
  | nil =>
    show cL [x] t = _
    rw [cL_c]
    show (if due x ≤ t then 0 + 1 else 0) = 0 + _
    split <;> rfl
  | cons d l ih =>
    show cL (d :: (l ++ [x])) t = _
    rw [cL_c, cL_c, ih]
    split <;> omega
theorem srt_all {P : List OD → Prop} (h0 : P []) (h1 : ∀ (l : List OD) (x : OD), P l → P (l ++ [x])) : ∀ l : List OD, P l := by
  intro l
  have : ∀ m : List OD, P m.reverse := by
    intro m
    induction m with
    | nil => exact h0
    | cons a m ih => rw [List.reverse_cons]; exact h1 _ _ ih
  rw [← List.reverse_reverse l]
  exact this _
theorem srt_sd : ∀ l : List OD, sdL (srt l) := srt_all trivial (fun l x h => by rw [srt_snoc]; exact insR_sd h)
theorem srt_len : ∀ l : List OD, (srt l).length = l.length := srt_all rfl (fun l x h => by rw [srt_snoc, insR_len, h, List.length_append]; rfl)
theorem srt_mem {e : OD} : ∀ l : List OD, e ∈ srt l ↔ e ∈ l := srt_all (Iff.rfl) (fun l x h => by
  rw [srt_snoc, insR_mem, h, List.mem_append, List.mem_singleton]
  exact Or.comm)
theorem srt_cL (t : Int) : ∀ l : List OD, cL (srt l) t = cL l t := srt_all rfl (fun l x h => by rw [srt_snoc, cL_ins, h, cL_snoc])
/-- where an order comes to lie -/
theorem insR_at {l : List OD} {x : OD} (h : sdL l) : ∀ i : Nat, (insR l x)[i]? = if i < cL l (due x) then l[i]? else if i = cL l (due x) then some x else l[i - 1]? := by
  induction l with
  | nil =>
    intro i
    show [x][i]? = if i < 0 then _ else if i = 0 then some x else _
    rw [if_neg (Nat.not_lt_zero _)]
    cases i with
    | zero => rfl
    | succ i => rfl
  | cons d l ih =>
    intro i
    rw [insR_c, cL_c]
    split
    · cases i with
      | zero => rw [if_pos (by omega)]; rfl
      | succ i =>
        show (insR l x)[i]? = _
        rw [ih h.2 i]
        by_cases a : i < cL l (due x)
        · rw [if_pos a, if_pos (by omega)]; rfl
        · by_cases b : i = cL l (due x)
          · rw [if_neg a, if_pos b, if_neg (by omega), if_pos (by omega)]
          · rw [if_neg a, if_neg b, if_neg (by omega), if_neg (by omega)]
            show l[i - 1]? = (d :: l)[i]?
            rw [show i = i - 1 + 1 by omega]
            rfl
    · rename_i q
      rw [cL_0 (fun e he => by have := h.1 e he; omega), if_neg (by omega)]
      cases i with
      | zero => rfl
      | succ i => rw [if_neg (by omega)]; rfl
theorem sd_at {l : List OD} (h : sdL l) : ∀ (r : Nat) (t : Int) (d : OD), l[r]? = some d → (r < cL l t ↔ due d ≤ t) := by
  induction l with
  | nil => intro r t d e; exact absurd e (by simp)
  | cons a l ih =>
    intro r t d e
    rw [cL_c]
    cases r with
    | zero =>
      have e : a = d := by simpa using e
      rw [← e]
      split
      · rename_i q; exact ⟨fun _ => q, fun _ => by omega⟩
      · rename_i q
        rw [cL_0 (fun e he => by have := h.1 e he; omega)]
        exact ⟨fun w => absurd w (Nat.lt_irrefl _), fun w => absurd w q⟩
    | succ r =>
      have e : l[r]? = some d := by simpa using e
      have i := ih h.2 r t d e
      split
      · rw [← i]; omega
      · rename_i q
        have hm : d ∈ l := List.mem_of_getElem? e
        have h1 := h.1 d hm
        rw [cL_0 (fun e he => by have := h.1 e he; omega)]
        exact ⟨fun w => absurd w (Nat.not_lt_zero _), fun w => by omega⟩
theorem rkN_s (z : Row) (o n : Nat) : rkN z o (n + 1) = rkN z o n + (if z (196 + 4 * n + 3) < z (196 + 4 * o + 3) ∨ (z (196 + 4 * n + 3) = z (196 + 4 * o + 3) ∧ n < o) then 1 else 0) := rfl
theorem rkN_new (z : Row) (o : Nat) : ∀ n : Nat, n ≤ o → rkN z o n = cL (os z n) (z (196 + 4 * o + 3)) := by
  intro n
  induction n with
  | zero => intro _; rfl
  | succ n ih =>
    intro h
    rw [rkN_s, ih (by omega), os_s, cL_snoc]
    show _ + _ = (((cL _ _) + (if z (196 + 4 * n + 3) ≤ _ then 1 else 0) : Nat) : Int)
    by_cases q : z (196 + 4 * n + 3) ≤ z (196 + 4 * o + 3)
    · rw [if_pos q, if_pos (by omega)]; omega
    · rw [if_neg q, if_neg (by omega)]; omega
theorem rk_at (z : Row) : ∀ n o : Nat, o < n → (srt (os z n))[(rkN z o n).toNat]? = some (od z o) := by
  intro n
  induction n with
  | zero => intro o h; exact absurd h (Nat.not_lt_zero _)
  | succ n ih =>
    intro o h
    rw [os_s, srt_snoc, insR_at (srt_sd _), rkN_s]
    have hb := rkN_b z o n
    have hd : due (od z n) = z (196 + 4 * n + 3) := rfl
    rw [hd]
    rcases (by omega : o < n ∨ o = n) with q | q
    · have e := ih o q
      have s := sd_at (srt_sd (os z n)) _ (z (196 + 4 * n + 3)) _ e
      have hd2 : due (od z o) = z (196 + 4 * o + 3) := rfl
      rw [hd2] at s
      by_cases u : z (196 + 4 * o + 3) ≤ z (196 + 4 * n + 3)
      · rw [if_neg (show ¬ (z (196 + 4 * n + 3) < z (196 + 4 * o + 3) ∨ (z (196 + 4 * n + 3) = z (196 + 4 * o + 3) ∧ n < o)) by omega), Int.add_zero, if_pos (s.mpr u)]
        exact e
      · have u2 : ¬ (rkN z o n).toNat < cL (srt (os z n)) (z (196 + 4 * n + 3)) := fun w => u (s.mp w)
        rw [if_pos (show z (196 + 4 * n + 3) < z (196 + 4 * o + 3) ∨ (z (196 + 4 * n + 3) = z (196 + 4 * o + 3) ∧ n < o) by omega)]
        rw [show (rkN z o n + 1).toNat = (rkN z o n).toNat + 1 by omega, if_neg (by omega), if_neg (by omega), Nat.add_sub_cancel]
        exact e
    · subst q
      rw [if_neg (show ¬ (z (196 + 4 * o + 3) < z (196 + 4 * o + 3) ∨ (z (196 + 4 * o + 3) = z (196 + 4 * o + 3) ∧ o < o)) by omega), Int.add_zero, rkN_new z o o (Nat.le_refl _)]
      rw [srt_cL, if_neg (by omega), if_pos (by omega)]
theorem rk_onto (z : Row) : ∀ n p : Nat, p < n → ∃ o : Nat, o < n ∧ rkN z o n = p := by
  intro n
  induction n with
  | zero => intro p h; exact absurd h (Nat.not_lt_zero _)
  | succ n ih =>
    intro p h
    have hc := cL_le (os z n) (z (196 + 4 * n + 3))
    rw [os_len] at hc
    rcases (by omega : p = cL (os z n) (z (196 + 4 * n + 3)) ∨ p < cL (os z n) (z (196 + 4 * n + 3)) ∨ cL (os z n) (z (196 + 4 * n + 3)) < p) with q | q | q
    · refine ⟨n, by omega, ?_⟩
      rw [rkN_s, rkN_new z n n (Nat.le_refl _), if_neg (by omega), q]
      omega
    · obtain ⟨o, o1, o2⟩ := ih p (by omega)
      have e := rk_at z n o o1
      rw [o2] at e
      have s := (sd_at (srt_sd (os z n)) _ (z (196 + 4 * n + 3)) _ e).mp (by rw [srt_cL]; omega)
      have s : z (196 + 4 * o + 3) ≤ z (196 + 4 * n + 3) := s
      refine ⟨o, by omega, ?_⟩
      rw [rkN_s, if_neg (by omega), o2]
      omega
    · obtain ⟨o, o1, o2⟩ := ih (p - 1) (by omega)
      have e := rk_at z n o o1
      rw [o2] at e
      have s : ¬ z (196 + 4 * o + 3) ≤ z (196 + 4 * n + 3) := fun w => by
        have := (sd_at (srt_sd (os z n)) _ (z (196 + 4 * n + 3)) _ e).mpr w
        rw [srt_cL] at this
        omega
      refine ⟨o, by omega, ?_⟩
      rw [rkN_s, if_pos (by omega), o2]
      omega
theorem insR_flt {l : List OD} {x : OD} (P : OD → Bool) (h : sdL l) : (insR l x).filter P = if P x = true then insR (l.filter P) x else l.filter P := by
  induction l with
  | nil =>
    show [x].filter P = _
    split
    · rename_i q; rw [List.filter_cons_of_pos q]; rfl
    · rename_i q; rw [List.filter_cons_of_neg q]
  | cons d l ih =>
    rw [insR_c]
    split
    · rename_i q
      by_cases pd : P d = true
      · rw [List.filter_cons_of_pos pd, List.filter_cons_of_pos pd, ih h.2]
        split
        · rw [insR_c, if_pos q]
        · rfl
      · rw [List.filter_cons_of_neg pd, List.filter_cons_of_neg pd, ih h.2]
    · rename_i q
      have hl : ∀ m : List OD, (∀ e : OD, e ∈ m → due x < due e) → insR m x = x :: m := by
        intro m hm
        cases m with
        | nil => rfl
        | cons e m => rw [insR_c, if_neg (by have := hm e List.mem_cons_self; omega)]
      split
      · rename_i px
        rw [List.filter_cons_of_pos px, hl]
        intro e he
        have he := (List.mem_filter.mp he).1
        rcases List.mem_cons.mp he with u | u
        · rw [u]; omega
        · have := h.1 e u; omega
      · rename_i px
        rw [List.filter_cons_of_neg px]
theorem srt_flt (P : OD → Bool) : ∀ l : List OD, srt (l.filter P) = (srt l).filter P := srt_all rfl (fun l x h => by
  rw [List.filter_append, srt_snoc, insR_flt P (srt_sd l), ← h]
  split
  · rename_i q; rw [List.filter_cons_of_pos q]; exact srt_snoc _ _
  · rename_i q; rw [List.filter_cons_of_neg q]; show srt (l.filter P ++ []) = _; rw [List.append_nil])
theorem sd_take {l : List OD} (h : sdL l) (t : Int) : l.filter (fun d => decide (due d ≤ t)) = l.take (cL l t) ∧ l.filter (fun d => !decide (due d ≤ t)) = l.drop (cL l t) := by
  induction l with
  | nil => exact ⟨rfl, rfl⟩
  | cons d l ih =>
    have i := ih h.2
    rw [cL_c]
    by_cases q : due d ≤ t
    · rw [if_pos q, List.filter_cons_of_pos (by simp [q]), List.filter_cons_of_neg (by simp [q]), i.1, i.2]
      exact ⟨rfl, rfl⟩
    · have c0 := cL_0 (l := l) (t := t) (fun e he => by have := h.1 e he; omega)
      rw [if_neg q, c0, List.filter_cons_of_neg (by simp [q]), List.filter_cons_of_pos (by simp [q]), i.1, i.2, c0]
      exact ⟨rfl, rfl⟩
