/-! ===== the model: small methods ===== -/
/-- the neighbour of a cell -/
def nb (c d : Int) : Int := if d = 0 then (if c < 12 then -1 else c - 12) else if d = 1 then (if c % 12 = 11 then -1 else c + 1) else if d = 2 then (if 84 ≤ c then -1 else c + 12) else (if c % 12 = 0 then -1 else c - 1)
/-! ===== the rules of the war, over one row of numbers z: heights 0..95, generals 96, 97, how many troops 98, troop k's figure f at 99 + 8 k + f, how many orders 195, order i's figure f at 196 + 4 i + f, turn 316, given 317, missed 318, lost 319, 320 ===== -/
abbrev Row : Type := Nat → Int
abbrev tf (z : Row) (k f : Nat) : Int := z (99 + 8 * k + f)
/-- heights -/
def wfH (z : Row) : Prop := ∀ j : Nat, j < 96 → 0 ≤ z j ∧ z j ≤ 9
def wfN (z : Row) : Prop := 0 ≤ z 98 ∧ z 98 ≤ 12
/-- each troop's figures -/
def wfT1 (z : Row) (k : Nat) : Prop := (0 ≤ tf z k 0 ∧ tf z k 0 ≤ 1) ∧ (0 ≤ tf z k 1 ∧ tf z k 1 ≤ 95) ∧ (0 ≤ tf z k 2 ∧ tf z k 2 ≤ 20) ∧ (0 ≤ tf z k 3 ∧ tf z k 3 ≤ 95) ∧ (0 ≤ tf z k 4 ∧ tf z k 4 ≤ 2) ∧ (1 ≤ tf z k 5 ∧ tf z k 5 ≤ 20) ∧ (0 ≤ tf z k 6 ∧ tf z k 6 ≤ 20) ∧ 0 ≤ tf z k 7
def wfT (z : Row) : Prop := ∀ k : Nat, (k : Int) < z 98 → wfT1 z k
/-- two troops that are not gone are never in one cell -/
def wfU (z : Row) : Prop := ∀ k l : Nat, (k : Int) < z 98 → (l : Int) < z 98 → tf z k 4 ≠ 2 → tf z l 4 ≠ 2 → tf z k 1 = tf z l 1 → k = l
def isC (c : Int) : Prop := 0 ≤ c ∧ c < 96
theorem nb_cell {c d : Int} (hc : isC c) (hd : 0 ≤ d ∧ d < 4) : nb c d = -1 ∨ isC (nb c d) := by
  unfold isC at *
  unfold nb
  repeat' split
  all_goals omega
/-- one can step from a cell to a cell -/
abbrev clm (z : Row) (a b : Int) : Prop := z b.toNat - z a.toNat ≤ 2 ∧ z a.toNat - z b.toNat ≤ 2
theorem clm_symm {z : Row} {a b : Int} (h : clm z a b) : clm z b a := ⟨h.2, h.1⟩
/-- the neighbour to which one can step -/
def stp (z : Row) (c d t : Int) : Prop := t = nb c d ∧ t ≠ -1 ∧ clm z c t
/-- the troop in a cell that is not gone, the last one of the first n; -1 -/
def tA (z : Row) (c : Int) : Nat → Int
  | 0 => -1
  | k + 1 => if tf z k 4 ≠ 2 ∧ tf z k 1 = c then (k : Int) else tA z c k
abbrev tAt (z : Row) (c : Int) : Int := tA z c (z 98).toNat
theorem tA_lt (z : Row) (c : Int) : ∀ n : Nat, -1 ≤ tA z c n ∧ tA z c n < n := by
  intro n
  induction n with
  | zero =>
    show -1 ≤ (-1 : Int) ∧ (-1 : Int) < ((0 : Nat) : Int)
    omega
  | succ k ih =>
    unfold tA
    split <;> omega
theorem tA_none {z : Row} {c : Int} : ∀ {n : Nat}, tA z c n = -1 ↔ ∀ k : Nat, k < n → ¬ (tf z k 4 ≠ 2 ∧ tf z k 1 = c) := by
  intro n
  induction n with
  | zero => exact ⟨fun _ k hk => absurd hk (Nat.not_lt_zero _), fun _ => rfl⟩
  | succ n ih =>
    unfold tA
    split
    · rename_i h
      exact ⟨fun q => by omega, fun q => absurd h (q n (Nat.lt_succ_self n))⟩
    · rename_i h
      rw [ih]
      refine ⟨fun q k hk => ?_, fun q k hk => q k (by omega)⟩
      rcases Nat.lt_or_ge k n with z1 | z1
      · exact q k z1
      · rw [show k = n by omega]; exact h
theorem tA_some {z : Row} {c : Int} : ∀ {n : Nat}, tA z c n ≠ -1 → ∃ k : Nat, k < n ∧ tA z c n = k ∧ tf z k 4 ≠ 2 ∧ tf z k 1 = c := by
  intro n
  induction n with
  | zero => intro h; exact absurd rfl h
  | succ n ih =>
    unfold tA
    split
    · rename_i h
      intro _
      exact ⟨n, Nat.lt_succ_self n, rfl, h.1, h.2⟩
    · intro h
      obtain ⟨k, h1, h2, h3⟩ := ih h
      exact ⟨k, by omega, h2, h3⟩
/-- where it is unique it is any that is there -/
theorem tA_uniq {z : Row} (hu : wfU z) {c : Int} {n k : Nat} (hn : (n : Int) ≤ z 98) (hk : k < n) (h4 : tf z k 4 ≠ 2) (h1 : tf z k 1 = c) : tA z c n = k := by
  have hne : tA z c n ≠ -1 := fun q => tA_none.mp q k hk ⟨h4, h1⟩
  obtain ⟨l, hl, e, h5, h6⟩ := tA_some hne
  have := hu k l (by omega) (by omega) h4 h5 (by rw [h1, h6])
  rw [e, this]
/-- how many neighbours one can step to, of the first n ways -/
def exN (z : Row) (c : Int) : Nat → Int
  | 0 => 0
  | d + 1 => exN z c d + (if nb c d ≠ -1 ∧ clm z c (nb c d) then 1 else 0)
theorem exN_b (z : Row) (c : Int) : ∀ n : Nat, 0 ≤ exN z c n ∧ exN z c n ≤ n := by
  intro n
  induction n with
  | zero =>
    show 0 ≤ (0 : Int) ∧ (0 : Int) ≤ ((0 : Nat) : Int)
    omega
  | succ k ih => unfold exN; split <;> omega
/-! ===== sight ===== -/
abbrev ab (v : Int) : Int := if v < 0 then -v else v
/-- the greater one of the distances across and down -/
abbrev nn (a b : Int) : Int := if ab (b / 12 - a / 12) < ab (b % 12 - a % 12) then ab (b % 12 - a % 12) else ab (b / 12 - a / 12)
/-- the k-th of n places from a on, d off in all -/
def pt (n a d k : Int) : Int := (2 * (n * a + k * d) + n) / (2 * n)
theorem mulb {a b A B : Int} (ha : 0 ≤ a ∧ a ≤ A) (hb : 0 ≤ b ∧ b ≤ B) : 0 ≤ a * b ∧ a * b ≤ A * B :=
  ⟨Int.mul_nonneg ha.1 hb.1, Int.le_trans (Int.mul_le_mul_of_nonneg_right ha.2 hb.1) (Int.mul_le_mul_of_nonneg_left hb.2 (Int.le_trans ha.1 ha.2))⟩
theorem pt_sum {n a d k M : Int} (hk : 0 ≤ k ∧ k ≤ n) (ha : 0 ≤ a ∧ a ≤ M) (hd : 0 ≤ a + d ∧ a + d ≤ M) : 0 ≤ n * a + k * d ∧ n * a + k * d ≤ n * M := by
  have e : n * a + k * d = (n - k) * a + k * (a + d) := by rw [Int.sub_mul, Int.mul_add]; omega
  have e2 : n * M = (n - k) * M + k * M := by rw [Int.sub_mul]; omega
  have h1 : 0 ≤ (n - k) * a := Int.mul_nonneg (by omega) ha.1
  have h2 : 0 ≤ k * (a + d) := Int.mul_nonneg hk.1 hd.1
  have h3 : (n - k) * a ≤ (n - k) * M := Int.mul_le_mul_of_nonneg_left ha.2 (by omega)
  have h4 : k * (a + d) ≤ k * M := Int.mul_le_mul_of_nonneg_left hd.2 hk.1
  omega
theorem pt_b {n a d k M : Int} (hn : 1 ≤ n) (hk : 0 ≤ k ∧ k ≤ n) (ha : 0 ≤ a ∧ a ≤ M) (hd : 0 ≤ a + d ∧ a + d ≤ M) : 0 ≤ pt n a d k ∧ pt n a d k ≤ M := by
  have h := pt_sum hk ha hd
  unfold pt
  refine ⟨Int.ediv_nonneg (by omega) (by omega), Int.le_of_lt_add_one (Int.ediv_lt_of_lt_mul (by omega) ?_)⟩
  have e : (M + 1) * (2 * n) = 2 * (n * M) + 2 * n := by rw [Int.add_mul, Int.mul_left_comm, Int.mul_comm M n]; omega
  omega
theorem pt_sym {n a d k : Int} : pt n (a + d) (-d) (n - k) = pt n a d k := by
  unfold pt
  have e : n * (a + d) + (n - k) * -d = n * a + k * d := by rw [Int.mul_add, Int.sub_mul, Int.mul_neg, Int.mul_neg]; omega
  rw [e]
/-- nothing hides b from a at the k-th place between -/
def seeK (z : Row) (a b k : Int) : Prop := z (12 * pt (nn a b) (a / 12) (b / 12 - a / 12) k + pt (nn a b) (a % 12) (b % 12 - a % 12) k).toNat * nn a b ≤ (z a.toNat + 1) * (nn a b - k) + (z b.toNat + 1) * k
def seeU (z : Row) (a b : Int) : Prop := ∀ k : Int, 1 ≤ k → k < nn a b → seeK z a b k
theorem nn_sym (a b : Int) : nn a b = nn b a := by
  unfold nn ab
  repeat' split
  all_goals omega
theorem nn_b {a b : Int} (ha : isC a) (hb : isC b) : 0 ≤ nn a b ∧ nn a b ≤ 11 := by
  unfold isC at *
  unfold nn ab
  repeat' split
  all_goals omega
theorem seeK_sym {z : Row} {a b k : Int} : seeK z b a (nn a b - k) ↔ seeK z a b k := by
  unfold seeK
  rw [nn_sym b a]
  have e1 : pt (nn a b) (b / 12) (a / 12 - b / 12) (nn a b - k) = pt (nn a b) (a / 12) (b / 12 - a / 12) k := by
    rw [← pt_sym (n := nn a b) (a := a / 12) (d := b / 12 - a / 12) (k := k)]
    rw [show a / 12 + (b / 12 - a / 12) = b / 12 by omega, show -(b / 12 - a / 12) = a / 12 - b / 12 by omega]
  have e2 : pt (nn a b) (b % 12) (a % 12 - b % 12) (nn a b - k) = pt (nn a b) (a % 12) (b % 12 - a % 12) k := by
    rw [← pt_sym (n := nn a b) (a := a % 12) (d := b % 12 - a % 12) (k := k)]
    rw [show a % 12 + (b % 12 - a % 12) = b % 12 by omega, show -(b % 12 - a % 12) = a % 12 - b % 12 by omega]
  rw [e1, e2]
  rw [show nn a b - (nn a b - k) = k by omega]
  rw [Int.add_comm ((z b.toNat + 1) * k)]
theorem seeU_sym {z : Row} {a b : Int} : seeU z a b ↔ seeU z b a := by
  have h : ∀ {a b : Int}, seeU z a b → seeU z b a := fun {a b} h k h1 h2 => by
    rw [nn_sym] at h2
    have := h (nn a b - k) (by omega) (by omega)
    rw [← seeK_sym] at this
    rw [show nn a b - (nn a b - k) = k by omega] at this
    exact this
  exact ⟨h, h⟩
/-- 1 if b is seen from a -/
def seeI (z : Row) (a b : Int) : Int := if (List.range (nn a b).toNat).all (fun j => decide (j = 0 ∨ z (12 * pt (nn a b) (a / 12) (b / 12 - a / 12) j + pt (nn a b) (a % 12) (b % 12 - a % 12) j).toNat * nn a b ≤ (z a.toNat + 1) * (nn a b - j) + (z b.toNat + 1) * j)) then 1 else 0
theorem seeI_is (z : Row) (a b : Int) : (seeU z a b ∧ seeI z a b = 1) ∨ (¬ seeU z a b ∧ seeI z a b = 0) := by
  unfold seeI
  split
  · rename_i h
    refine Or.inl ⟨fun k h1 h2 => ?_, rfl⟩
    have := of_decide_eq_true (List.all_eq_true.mp h k.toNat (List.mem_range.mpr (by omega)))
    rcases this with q | q
    · omega
    · rw [Int.toNat_of_nonneg (by omega)] at q
      exact q
  · rename_i h
    refine Or.inr ⟨fun q => h ?_, rfl⟩
    refine List.all_eq_true.mpr (fun j hj => decide_eq_true ?_)
    have hj := List.mem_range.mp hj
    rcases Nat.eq_zero_or_pos j with z0 | z0
    · exact Or.inl z0
    · exact Or.inr (q j (by omega) (by omega))
theorem seeI_one {z : Row} {a b : Int} (h : seeU z a b) : seeI z a b = 1 := by rcases seeI_is z a b with q | q; exact q.2; exact absurd h q.1
theorem seeI_zero {z : Row} {a b : Int} (h : ¬ seeU z a b) : seeI z a b = 0 := by rcases seeI_is z a b with q | q; exact absurd q.1 h; exact q.2
theorem seeI_sym (z : Row) (a b : Int) : seeI z a b = seeI z b a := by
  rcases seeI_is z a b with q | q
  · rw [q.2, seeI_one (seeU_sym.mp q.1)]
  · rw [q.2, seeI_zero (fun w => q.1 (seeU_sym.mp w))]
/-- how many of the first n cells are seen -/
def sfN (z : Row) (a : Int) : Nat → Int
  | 0 => 0
  | k + 1 => sfN z a k + seeI z a k
theorem sfN_b (z : Row) (a : Int) : ∀ n : Nat, 0 ≤ sfN z a n ∧ sfN z a n ≤ n := by
  intro n
  induction n with
  | zero =>
    show 0 ≤ (0 : Int) ∧ (0 : Int) ≤ ((0 : Nat) : Int)
    omega
  | succ k ih =>
    unfold sfN
    rcases seeI_is z a k with q | q
    · rw [q.2]; omega
    · rw [q.2]; omega
/-- the cell to which one can step, -1 -/
def stT (z : Row) (c d : Int) : Int := if nb c d ≠ -1 ∧ clm z c (nb c d) then nb c d else -1
theorem stT_cell {z : Row} {c d : Int} (hc : isC c) (hd : 0 ≤ d ∧ d < 4) : stT z c d = -1 ∨ (isC (stT z c d) ∧ stT z c d = nb c d ∧ clm z c (stT z c d)) := by
  unfold stT
  split
  · rename_i h
    exact Or.inr ⟨(nb_cell hc hd).resolve_left h.1, rfl, h.2⟩
  · exact Or.inl rfl
/-! ===== ways: a search over the field, whatever its program ===== -/
/-- one step leads from p to t, and t is open -/
def isE (z : Row) (op : Int → Bool) (p t : Int) : Prop := isC p ∧ ∃ w : Int, 0 ≤ w ∧ w < 4 ∧ stT z p w = t ∧ t ≠ -1 ∧ op t = true
/-- a way of n steps from c to t -/
def wk (z : Row) (op : Int → Bool) (c : Int) : Nat → Int → Prop
  | 0, t => t = c
  | n + 1, t => ∃ p : Int, wk z op c n p ∧ isE z op p t
theorem isE_cell {z : Row} {op : Int → Bool} {p t : Int} (h : isE z op p t) : isC t := by
  obtain ⟨hp, w, h0, h1, h2, h3, _⟩ := h
  rcases stT_cell (z := z) hp ⟨h0, h1⟩ with q | q
  · exact absurd (h2.symm.trans q) h3
  · rw [← h2]; exact q.1
theorem wk_cell {z : Row} {op : Int → Bool} {c : Int} (hc : isC c) : ∀ {n : Nat} {t : Int}, wk z op c n t → isC t
  | 0, _, h => by rw [show _ = c from h]; exact hc
  | _ + 1, _, ⟨_, _, h⟩ => isE_cell h
/-- how many of the first n cells have been reached -/
def cntA (f : Row) : Nat → Int
  | 0 => 0
  | k + 1 => cntA f k + (if f k = -1 then 0 else 1)
theorem cntA_b (f : Row) : ∀ n : Nat, 0 ≤ cntA f n ∧ cntA f n ≤ n := by
  intro n
  induction n with
  | zero =>
    show 0 ≤ (0 : Int) ∧ (0 : Int) ≤ ((0 : Nat) : Int)
    omega
  | succ k ih => unfold cntA; split <;> omega
theorem cntA_lt {f : Row} {t : Nat} (ht : f t = -1) : ∀ n : Nat, t < n → cntA f n < n := by
  intro n
  induction n with
  | zero => intro h; exact absurd h (Nat.not_lt_zero _)
  | succ k ih =>
    intro h
    unfold cntA
    rcases Nat.lt_or_ge t k with q | q
    · have := ih q; split <;> omega
    · have e : t = k := by omega
      have := cntA_b f k
      rw [← e, if_pos ht]
      rw [← e] at this
      omega
theorem cntA_far {f : Row} {t : Nat} {v : Int} : ∀ n : Nat, n ≤ t → cntA (uz f t v) n = cntA f n := by
  intro n
  induction n with
  | zero => intro _; rfl
  | succ k ih =>
    intro h
    unfold cntA
    rw [ih (by omega), uz_ne f v (by omega : k ≠ t)]
theorem cntA_set {f : Row} {t : Nat} {v : Int} (ht : f t = -1) (hv : v ≠ -1) : ∀ n : Nat, t < n → cntA (uz f t v) n = cntA f n + 1 := by
  intro n
  induction n with
  | zero => intro h; exact absurd h (Nat.not_lt_zero _)
  | succ k ih =>
    intro h
    unfold cntA
    rcases Nat.lt_or_ge t k with q | q
    · rw [ih q, uz_ne f v (by omega : k ≠ t)]; omega
    · have e : t = k := by omega
      rw [← e, cntA_far t (Nat.le_refl t), uz_same, if_neg hv, if_pos ht]
      omega
theorem cntA_one {f : Row} {c : Nat} (h : ∀ j : Nat, j < 96 → f j = if j = c then 0 else -1) : ∀ n : Nat, n ≤ 96 → cntA f n = if c < n then 1 else 0 := by
  intro n
  induction n with
  | zero => intro _; rw [if_neg (Nat.not_lt_zero _)]; rfl
  | succ k ih =>
    intro hk
    unfold cntA
    rw [ih (by omega), h k (by omega)]
    rcases Nat.lt_trichotomy c k with q | q | q
    · rw [if_neg (show ¬ k = c by omega), if_pos q, if_pos rfl, if_pos (by omega)]; omega
    · rw [if_neg (by omega : ¬ c < k), if_pos q.symm, if_neg (by decide), if_pos (by omega)]; omega
    · rw [if_neg (show ¬ k = c by omega), if_neg (by omega : ¬ c < k), if_pos rfl, if_neg (by omega)]; omega
/-- what holds while the k-th cell of the queue is looked at, d of its ways done -/
def bInv (z : Row) (op : Int → Bool) (c k d : Int) (f q : Row) (e : Int) : Prop :=
  (0 ≤ k ∧ k ≤ e ∧ 1 ≤ e ∧ 0 ≤ d) ∧ cntA f 96 = e ∧
  (∀ i : Nat, (i : Int) < e → isC (q i) ∧ 0 ≤ f (q i).toNat) ∧
  (∀ t : Int, isC t → f t.toNat ≠ -1 → ∃ i : Nat, (i : Int) < e ∧ q i = t) ∧
  (∀ i j : Nat, i ≤ j → (j : Int) < e → f (q i).toNat ≤ f (q j).toNat) ∧
  (∀ i : Nat, (i : Int) < e → k < e → f (q i).toNat ≤ f (q k.toNat).toNat + 1) ∧
  (∀ i : Nat, (i : Int) < e → ∀ w : Int, 0 ≤ w → w < 4 → ((i : Int) < k ∨ ((i : Int) = k ∧ w < d)) → stT z (q i) w ≠ -1 → op (stT z (q i) w) = true → 0 ≤ f (stT z (q i) w).toNat ∧ f (stT z (q i) w).toNat ≤ f (q i).toNat + 1) ∧
  (∀ t : Int, isC t → (f t.toNat = -1 ∨ (0 ≤ f t.toNat ∧ wk z op c (f t.toNat).toNat t)) ∧ f t.toNat < e) ∧
  f c.toNat = 0
theorem bInv_start {z : Row} {op : Int → Bool} {c : Int} {f q : Row} (hc : isC c) (hf : ∀ j : Nat, j < 96 → f j = if j = c.toNat then 0 else -1) (hq : q 0 = c) : bInv z op c 0 0 f q 1 := by
  have hc' := hc
  unfold isC at hc'
  have f0 : f c.toNat = 0 := by rw [hf _ (by omega), if_pos rfl]
  refine ⟨by omega, ?_, fun i hi => ?_, fun t ht h => ⟨0, by omega, ?_⟩, fun i j h1 h2 => ?_, fun i hi _ => ?_, fun i hi w _ _ h => by omega, fun t ht => ?_, f0⟩
  · rw [cntA_one hf 96 (Nat.le_refl _), if_pos (by omega)]
  · rw [show i = 0 by omega, hq, f0]; exact ⟨hc, by decide⟩
  · unfold isC at ht
    rw [hf _ (by omega)] at h
    rw [hq]
    by_cases e : t.toNat = c.toNat
    · omega
    · rw [if_neg e] at h; exact absurd rfl h
  · rw [show i = 0 by omega, show j = 0 by omega]; exact Int.le_refl _
  · rw [show i = 0 by omega]; rw [show (0 : Int).toNat = 0 from rfl]; omega
  · unfold isC at ht
    by_cases e : t.toNat = c.toNat
    · rw [e, f0]; exact ⟨Or.inr ⟨by decide, show t = c by omega⟩, by decide⟩
    · rw [hf _ (by omega), if_neg e]; exact ⟨Or.inl rfl, by decide⟩
theorem bInv_le {z : Row} {op : Int → Bool} {c k d e : Int} {f q : Row} (h : bInv z op c k d f q e) : 0 ≤ k ∧ k ≤ e ∧ 1 ≤ e ∧ e ≤ 96 := by
  have := cntA_b f 96
  have h1 := h.1
  have h2 := h.2.1
  omega
theorem bInv_room {z : Row} {op : Int → Bool} {c k d e : Int} {f q : Row} (h : bInv z op c k d f q e) {t : Int} (ht : isC t) (hf : f t.toNat = -1) : e < 96 := by
  have := cntA_lt hf 96 (by unfold isC at ht; omega)
  have h2 := h.2.1
  omega
theorem bInv_q {z : Row} {op : Int → Bool} {c k d e : Int} {f q : Row} (h : bInv z op c k d f q e) (hk : k < e) : isC (q k.toNat) ∧ 0 ≤ f (q k.toNat).toNat := h.2.2.1 k.toNat (by have := h.1; omega)
theorem bInv_b {z : Row} {op : Int → Bool} {c k d e : Int} {f q : Row} (h : bInv z op c k d f q e) {t : Int} (ht : isC t) : -1 ≤ f t.toNat ∧ f t.toNat < 96 := by
  have h1 := h.2.2.2.2.2.2.2.1 t ht
  have h2 := bInv_le h
  omega
theorem bInv_skip {z : Row} {op : Int → Bool} {c k d e : Int} {f q : Row} (h : bInv z op c k d f q e) (hk : k < e) (hs : stT z (q k.toNat) d = -1 ∨ f (stT z (q k.toNat) d).toNat ≠ -1 ∨ op (stT z (q k.toNat) d) ≠ true) (hd : d < 4) : bInv z op c k (d + 1) f q e := by
  obtain ⟨hA, hB, hC, hD, hE, hF, hG, hH, h0⟩ := h
  refine ⟨by omega, hB, hC, hD, hE, hF, fun i hi w w0 w4 hw s1 s2 => ?_, hH, h0⟩
  by_cases q1 : (i : Int) < k ∨ ((i : Int) = k ∧ w < d)
  · exact hG i hi w w0 w4 q1 s1 s2
  · have e1 : i = k.toNat := by omega
    have e2 : w = d := by omega
    rw [e1, e2] at s1 s2 ⊢
    have hq := hC k.toNat (by omega)
    have hc := ((stT_cell (z := z) hq.1 ⟨hA.2.2.2, hd⟩).resolve_left s1).1
    have h1 := (hs.resolve_left s1).resolve_right (fun w => w s2)
    have h2 := hH _ hc
    obtain ⟨j, j1, j2⟩ := hD _ hc h1
    have h3 := hF j j1 hk
    rw [j2] at h3
    exact ⟨by omega, h3⟩
theorem bInv_take {z : Row} {op : Int → Bool} {c k d e : Int} {f q : Row} (h : bInv z op c k d f q e) (hk : k < e) (hd : d < 4) (s1 : stT z (q k.toNat) d ≠ -1) (s2 : f (stT z (q k.toNat) d).toNat = -1) (s3 : op (stT z (q k.toNat) d) = true) (hcc : isC c) : bInv z op c k (d + 1) (uz f (stT z (q k.toNat) d).toNat (f (q k.toNat).toNat + 1)) (uz q e.toNat (stT z (q k.toNat) d)) (e + 1) := by
  obtain ⟨hA, hB, hC, hD, hE, hF, hG, hH, h0⟩ := h
  have hq := hC k.toNat (by omega)
  have hst := stT_cell (z := z) hq.1 ⟨hA.2.2.2, hd⟩
  generalize et : stT z (q k.toNat) d = t at *
  have hc := (hst.resolve_left s1).1
  have hc' : 0 ≤ t ∧ t < 96 := hc
  have hcc' : 0 ≤ c ∧ c < 96 := hcc
  have u1 : ∀ i : Nat, (i : Int) < e → uz q e.toNat t i = q i := fun i hi => uz_ne q t (by omega)
  have u2 : ∀ x : Nat, 0 ≤ f x → uz f t.toNat (f (q k.toNat).toNat + 1) x = f x := fun x hx => uz_ne f _ (fun w => by rw [w] at hx; omega)
  have u3 : uz f t.toNat (f (q k.toNat).toNat + 1) t.toNat = f (q k.toNat).toNat + 1 := uz_same f _ _
  have u4 : uz q e.toNat t e.toNat = t := uz_same q _ _
  refine ⟨by omega, ?_, fun i hi => ?_, fun x hx h => ?_, fun i j h1 h2 => ?_, fun i hi _ => ?_, fun i hi w w0 w4 hw r1 r2 => ?_, fun x hx => ?_, ?_⟩
  · rw [cntA_set s2 (by omega) 96 (by omega), hB]
  · by_cases q1 : (i : Int) < e
    · have := hC i q1
      rw [u1 i q1, u2 _ this.2]; exact this
    · rw [show i = e.toNat by omega, u4, u3]; exact ⟨hc, by omega⟩
  · by_cases q1 : x.toNat = t.toNat
    · have : x = t := by have := hx.1; omega
      exact ⟨e.toNat, by omega, by rw [u4, this]⟩
    · rw [uz_ne f _ q1] at h
      obtain ⟨i, i1, i2⟩ := hD x hx h
      exact ⟨i, by omega, by rw [u1 i i1, i2]⟩
  · by_cases q1 : (j : Int) < e
    · have h3 := hC i (by omega)
      have h4 := hC j q1
      rw [u1 i (by omega), u1 j q1, u2 _ h3.2, u2 _ h4.2]
      exact hE i j h1 q1
    · rw [show j = e.toNat by omega, u4, u3]
      by_cases q2 : (i : Int) < e
      · have h3 := hC i q2
        rw [u1 i q2, u2 _ h3.2]
        exact hF i q2 hk
      · rw [show i = e.toNat by omega, u4, u3]; exact Int.le_refl _
  · rw [u1 k.toNat (by omega), u2 _ hq.2]
    by_cases q2 : (i : Int) < e
    · have h3 := hC i q2
      rw [u1 i q2, u2 _ h3.2]
      exact hF i q2 hk
    · rw [show i = e.toNat by omega, u4, u3]; exact Int.le_refl _
  · have q2 : (i : Int) < e := by omega
    have h3 := hC i q2
    rw [u1 i q2] at r1 r2 ⊢
    rw [u2 _ h3.2]
    by_cases q1 : (i : Int) < k ∨ ((i : Int) = k ∧ w < d)
    · have h4 := hG i q2 w w0 w4 q1 r1 r2
      rw [u2 _ h4.1]
      exact h4
    · have e1 : i = k.toNat := by omega
      have e2 : w = d := by omega
      rw [e1, e2, et, u3]
      exact ⟨by omega, Int.le_refl _⟩
  · by_cases q1 : x.toNat = t.toNat
    · have e1 : x = t := by have := hx.1; omega
      rw [e1, u3]
      have h5 := hH _ hq.1
      refine ⟨Or.inr ⟨by omega, ?_⟩, by omega⟩
      rw [show (f (q k.toNat).toNat + 1).toNat = (f (q k.toNat).toNat).toNat + 1 by omega]
      rcases h5.1 with h6 | h6
      · omega
      · exact ⟨q k.toNat, h6.2, hq.1, d, hA.2.2.2, hd, et, s1, s3⟩
    · rw [uz_ne f _ q1]
      have := hH x hx
      exact ⟨this.1, by omega⟩
  · rw [u2 _ (by omega), h0]
theorem bInv_next {z : Row} {op : Int → Bool} {c k e : Int} {f q : Row} (h : bInv z op c k 4 f q e) (hk : k < e) : bInv z op c (k + 1) 0 f q e := by
  obtain ⟨hA, hB, hC, hD, hE, hF, hG, hH, h0⟩ := h
  refine ⟨by omega, hB, hC, hD, hE, fun i hi hk1 => ?_, fun i hi w w0 w4 hw => hG i hi w w0 w4 (by omega), hH, h0⟩
  have h1 := hF i hi hk
  have h2 := hE k.toNat (k + 1).toNat (by omega) (by omega)
  omega
/-- f tells the least ways from c -/
def dSp (z : Row) (op : Int → Bool) (c : Int) (f : Row) : Prop := ∀ t : Int, isC t → (f t.toNat = -1 ∧ ∀ n : Nat, ¬ wk z op c n t) ∨ (0 ≤ f t.toNat ∧ f t.toNat < 96 ∧ wk z op c (f t.toNat).toNat t ∧ ∀ m : Nat, wk z op c m t → f t.toNat ≤ m)
theorem dSp_uniq {z : Row} {op : Int → Bool} {c : Int} {f g : Row} (hf : dSp z op c f) (hg : dSp z op c g) {t : Int} (ht : isC t) : f t.toNat = g t.toNat := by
  rcases hf t ht with a | a <;> rcases hg t ht with b | b
  · rw [a.1, b.1]
  · exact absurd b.2.2.1 (a.2 _)
  · exact absurd a.2.2.1 (b.2 _)
  · have h1 := a.2.2.2 _ b.2.2.1
    have h2 := b.2.2.2 _ a.2.2.1
    omega
theorem bInv_end {z : Row} {op : Int → Bool} {c k e : Int} {f q : Row} (h : bInv z op c k 0 f q e) (hc : isC c) (hk : e ≤ k) : dSp z op c f := by
  have hle := bInv_le h
  obtain ⟨hA, hB, hC, hD, hE, hF, hG, hH, h0⟩ := h
  have key : ∀ (n : Nat) (t : Int), wk z op c n t → 0 ≤ f t.toNat ∧ f t.toNat ≤ n := by
    intro n
    induction n with
    | zero => intro t ht; rw [show t = c from ht, h0]; exact ⟨by decide, by decide⟩
    | succ n ih =>
      intro t ht
      obtain ⟨p, p1, p2, w, w0, w4, ws, wn, wo⟩ := ht
      have h1 := ih p p1
      obtain ⟨i, i1, i2⟩ := hD p p2 (by omega)
      have h2 := hG i i1 w w0 w4 (Or.inl (by omega)) (by rw [i2, ws]; exact wn) (by rw [i2, ws]; exact wo)
      rw [i2, ws] at h2
      omega
  intro t ht
  rcases hH t ht with ⟨h1 | h1, h2⟩
  · exact Or.inl ⟨h1, fun n hn => by have := key n t hn; omega⟩
  · exact Or.inr ⟨h1.1, by omega, h1.2, fun m hm => (key m t hm).2⟩
/-- a search that has not looked at all -/
theorem bInv_early {z : Row} {op : Int → Bool} {c k e : Int} {f q g : Row} (h : bInv z op c k 0 f q e) (hc : isC c) (hg : dSp z op c g) {s : Int} (hs : isC s) (hf : f s.toNat ≠ -1) {t : Int} (ht : isC t) : f t.toNat = g t.toNat ∨ (f t.toNat = -1 ∧ (g t.toNat = -1 ∨ g s.toNat ≤ g t.toNat)) := by
  rcases Int.lt_or_le k e with hk | hk
  · have hle := bInv_le h
    obtain ⟨hA, hB, hC, hD, hE, hF, hG, hH, h0⟩ := h
    have key : ∀ (n : Nat) (t : Int), wk z op c n t → (0 ≤ f t.toNat ∧ f t.toNat ≤ n) ∨ (f t.toNat = -1 ∧ f (q k.toNat).toNat + 1 ≤ n) := by
      intro n
      induction n with
      | zero => intro t ht; rw [show t = c from ht, h0]; exact Or.inl ⟨by decide, by decide⟩
      | succ n ih =>
        intro t ht
        have tc : isC t := wk_cell hc ht
        obtain ⟨p, p1, p2, w, w0, w4, ws, wn, wo⟩ := ht
        have h1 := ih p p1
        have ht1 := hH t tc
        have hF1 : f t.toNat ≠ -1 → f t.toNat ≤ f (q k.toNat).toNat + 1 := fun u => by
          obtain ⟨j, j1, j2⟩ := hD t tc u
          have := hF j j1 hk
          rw [j2] at this
          exact this
        rcases h1 with h1 | h1
        · obtain ⟨i, i1, i2⟩ := hD p p2 (by omega)
          by_cases ik : (i : Int) < k
          · have h2 := hG i i1 w w0 w4 (Or.inl ik) (by rw [i2, ws]; exact wn) (by rw [i2, ws]; exact wo)
            rw [i2, ws] at h2
            omega
          · have h3 := hE k.toNat i (by omega) i1
            rw [i2] at h3
            omega
        · omega
    have val : ∀ {x : Int}, isC x → f x.toNat ≠ -1 → f x.toNat = g x.toNat := fun {x} hx hn => by
      have hw := ((hH x hx).1).resolve_left hn
      rcases hg x hx with b | b
      · exact absurd hw.2 (b.2 _)
      · have h1 := b.2.2.2 _ hw.2
        have h2 := key _ x b.2.2.1
        omega
    by_cases ft : f t.toNat = -1
    · refine Or.inr ⟨ft, ?_⟩
      rcases hg t ht with b | b
      · exact Or.inl b.1
      · have h2 := key _ t b.2.2.1
        obtain ⟨j, j1, j2⟩ := hD s hs hf
        have h3 := hF j j1 hk
        rw [j2] at h3
        have h4 := val hs hf
        omega
    · exact Or.inl (val ht ft)
  · exact Or.inl (dSp_uniq (bInv_end h hc hk) hg ht)
/-! ===== the search itself, for its values ===== -/
def bW (z : Row) (op : Int → Bool) (k : Int) (S : Row × Row × Int) (d : Int) : Row × Row × Int :=
  if stT z (S.2.1 k.toNat) d ≠ -1 ∧ S.1 (stT z (S.2.1 k.toNat) d).toNat = -1 ∧ op (stT z (S.2.1 k.toNat) d) = true then
    (uz S.1 (stT z (S.2.1 k.toNat) d).toNat (S.1 (S.2.1 k.toNat).toNat + 1), uz S.2.1 S.2.2.toNat (stT z (S.2.1 k.toNat) d), S.2.2 + 1) else S
def bR (z : Row) (op : Int → Bool) (c : Int) : Nat → Row × Row × Int
  | 0 => (uz (fun _ => -1) c.toNat 0, fun _ => c, 1)
  | k + 1 => if (k : Int) < (bR z op c k).2.2 then bW z op k (bW z op k (bW z op k (bW z op k (bR z op c k) 0) 1) 2) 3 else bR z op c k
theorem bW_inv {z : Row} {op : Int → Bool} {c k d : Int} {S : Row × Row × Int} (hc : isC c) (hk : k < S.2.2) (hd : d < 4) (h : bInv z op c k d S.1 S.2.1 S.2.2) : bInv z op c k (d + 1) (bW z op k S d).1 (bW z op k S d).2.1 (bW z op k S d).2.2 ∧ k < (bW z op k S d).2.2 := by
  unfold bW
  split
  · rename_i q
    exact ⟨bInv_take h hk hd q.1 q.2.1 q.2.2 hc, Int.lt_trans hk (Int.lt_succ _)⟩
  · rename_i q
    refine ⟨bInv_skip h hk ?_ hd, hk⟩
    by_cases q1 : stT z (S.2.1 k.toNat) d = -1
    · exact Or.inl q1
    · by_cases q2 : S.1 (stT z (S.2.1 k.toNat) d).toNat = -1
      · exact Or.inr (Or.inr (fun q3 => q ⟨q1, q2, q3⟩))
      · exact Or.inr (Or.inl q2)
theorem bR_inv {z : Row} {op : Int → Bool} {c : Int} (hc : isC c) : ∀ n : Nat, ∃ k : Int, bInv z op c k 0 (bR z op c n).1 (bR z op c n).2.1 (bR z op c n).2.2 ∧ (k = n ∨ (bR z op c n).2.2 ≤ k) ∧ k ≤ n := by
  intro n
  induction n with
  | zero =>
    refine ⟨0, bInv_start hc (fun j _ => ?_) rfl, Or.inl rfl, Int.le_refl _⟩
    rfl
  | succ n ih =>
    obtain ⟨k, h1, h2, h3⟩ := ih
    unfold bR
    split
    · rename_i q
      rcases h2 with h2 | h2
      · rw [h2] at h1
        have a0 := bW_inv hc q (by decide) h1
        have a1 := bW_inv hc a0.2 (by decide) a0.1
        have a2 := bW_inv hc a1.2 (by decide) a1.1
        have a3 := bW_inv hc a2.2 (by decide) a2.1
        exact ⟨(n : Int) + 1, bInv_next a3.1 a3.2, Or.inl rfl, by omega⟩
      · exfalso; omega
    · rename_i q
      exact ⟨k, h1, Or.inr (by rcases h2 with h2 | h2; rw [h2]; omega; exact h2), by omega⟩
/-- how far the cells are from c -/
def dF (z : Row) (op : Int → Bool) (c : Int) : Row := (bR z op c 96).1
theorem dF_sp {z : Row} {op : Int → Bool} {c : Int} (hc : isC c) : dSp z op c (dF z op c) := by
  obtain ⟨k, h1, h2, _⟩ := bR_inv (z := z) (op := op) hc 96
  refine bInv_end h1 hc ?_
  have := bInv_le h1
  omega
theorem dF_b {z : Row} {op : Int → Bool} {c t : Int} (hc : isC c) (ht : isC t) : -1 ≤ dF z op c t.toNat ∧ dF z op c t.toNat < 96 := by
  rcases dF_sp (z := z) (op := op) hc t ht with q | q <;> omega
/-! where all cells are open ways lead there and back -/
abbrev opA : Int → Bool := fun _ => true
theorem nb_back {c w : Int} (hc : isC c) (hw : 0 ≤ w ∧ w < 4) (hn : nb c w ≠ -1) : nb (nb c w) ((w + 2) % 4) = c := by
  unfold isC at hc
  rcases (by omega : w = 0 ∨ w = 1 ∨ w = 2 ∨ w = 3) with e | e | e | e <;> subst e <;> unfold nb at hn ⊢ <;> simp only [Int.reduceEq, Int.reduceAdd, Int.reduceMod, if_true, if_false, reduceIte, ne_eq] at hn ⊢ <;> (repeat' split) <;> (repeat' split at hn) <;> omega
theorem isE_back {z : Row} {p t : Int} (h : isE z opA p t) : isE z opA t p := by
  have ht := isE_cell h
  obtain ⟨hp, w, w0, w4, h1, h2, _⟩ := h
  rcases stT_cell (z := z) hp ⟨w0, w4⟩ with q | ⟨q1, q2, q3⟩
  · exact absurd (h1.symm.trans q) h2
  · rw [h1] at q1 q2 q3
    have hb := nb_back hp ⟨w0, w4⟩ (by rw [← q2]; exact h2)
    rw [← q2] at hb
    refine ⟨ht, (w + 2) % 4, by omega, by omega, ?_, by unfold isC at hp; omega, rfl⟩
    unfold stT
    rw [hb, if_pos ⟨by unfold isC at hp; omega, q3.2, q3.1⟩]
theorem wk_front {z : Row} {a p : Int} (h : isE z opA a p) : ∀ {n : Nat} {b : Int}, wk z opA p n b → wk z opA a (n + 1) b
  | 0, _, e => ⟨a, rfl, by rw [show _ = p from e]; exact h⟩
  | _ + 1, _, ⟨m, h1, h2⟩ => ⟨m, wk_front h h1, h2⟩
theorem wk_back {z : Row} {a : Int} : ∀ {n : Nat} {b : Int}, wk z opA a n b → wk z opA b n a
  | 0, _, e => (show _ = a from e).symm
  | _ + 1, _, ⟨_, h1, h2⟩ => wk_front (isE_back h2) (wk_back h1)
/-- how many steps lead from a to b, -1 -/
def dS (z : Row) (a b : Int) : Int := dF z opA a b.toNat
theorem dSp_sym {z : Row} {a b : Int} {f g : Row} (hf : dSp z opA a f) (hg : dSp z opA b g) (ha : isC a) (hb : isC b) : f b.toNat = g a.toNat := by
  rcases hf b hb with p | p <;> rcases hg a ha with q | q
  · rw [p.1, q.1]
  · exact absurd (wk_back q.2.2.1) (p.2 _)
  · exact absurd (wk_back p.2.2.1) (q.2 _)
  · have h1 := p.2.2.2 _ (wk_back q.2.2.1)
    have h2 := q.2.2.2 _ (wk_back p.2.2.1)
    omega
theorem dS_sym {z : Row} {a b : Int} (ha : isC a) (hb : isC b) : dS z a b = dS z b a := dSp_sym (dF_sp ha) (dF_sp hb) ha hb
theorem dS_b {z : Row} {a b : Int} (ha : isC a) (hb : isC b) : -1 ≤ dS z a b ∧ dS z a b < 96 := dF_b ha hb
/-! ===== the model's rows ===== -/
def m3 (I : Nat → Nat → Int) (z f q : Row) : Nat → Nat → Int := fun a => if a = 362 then z else if a = 365 then f else if a = 366 then q else I a
theorem m3_z (I : Nat → Nat → Int) (z f q : Row) : m3 I z f q 362 = z := rfl
theorem m3_f (I : Nat → Nat → Int) (z f q : Row) : m3 I z f q 365 = f := rfl
theorem m3_q (I : Nat → Nat → Int) (z f q : Row) : m3 I z f q 366 = q := rfl
theorem m3_o (I : Nat → Nat → Int) (z f q : Row) {a : Nat} (h : a ≠ 362 ∧ a ≠ 365 ∧ a ≠ 366) : m3 I z f q a = I a := by
  unfold m3
  rw [if_neg h.1, if_neg h.2.1, if_neg h.2.2]
theorem m3_self (I : Nat → Nat → Int) : m3 I (I 362) (I 365) (I 366) = I := funext (fun a => by
  unfold m3
  split
  · rename_i h; rw [h]
  · split
    · rename_i h; rw [h]
    · split
      · rename_i h; rw [h]
      · rfl)
theorem u2_m3_z (I : Nat → Nat → Int) (z f q : Row) (k : Nat) (v : Int) : u2 (m3 I z f q) 362 k v = m3 I (uz z k v) f q := funext (fun a => by
  by_cases h : a = 362
  · rw [h, u2_at]; rfl
  · rw [u2_off _ _ _ h]; unfold m3; rw [if_neg h, if_neg h])
theorem u2_m3_f (I : Nat → Nat → Int) (z f q : Row) (k : Nat) (v : Int) : u2 (m3 I z f q) 365 k v = m3 I z (uz f k v) q := funext (fun a => by
  by_cases h : a = 365
  · rw [h, u2_at]; rfl
  · rw [u2_off _ _ _ h]; unfold m3; rw [if_neg h, if_neg h])
theorem u2_m3_q (I : Nat → Nat → Int) (z f q : Row) (k : Nat) (v : Int) : u2 (m3 I z f q) 366 k v = m3 I z f (uz q k v) := funext (fun a => by
  by_cases h : a = 366
  · rw [h, u2_at]; rfl
  · rw [u2_off _ _ _ h]; unfold m3; rw [if_neg h, if_neg h])
theorem u2_m3_o (I : Nat → Nat → Int) (z f q : Row) {b : Nat} (k : Nat) (v : Int) (hb : b ≠ 362 ∧ b ≠ 365 ∧ b ≠ 366) : u2 (m3 I z f q) b k v = m3 (u2 I b k v) z f q := funext (fun a => by
  by_cases h : a = b
  · rw [h, u2_at, m3_o _ _ _ _ hb, m3_o _ _ _ _ hb, u2_at]
  · rw [u2_off _ _ _ h]; unfold m3; rw [u2_off _ _ _ h])
/-- over which cells the model's search goes -/
def opM (z : Row) (tr : Int) : Int → Bool := fun t => decide (tr = -1 ∨ tAt z t = -1 ∨ tAt z t = tr)
/-! ===== the model: orders are given ===== -/
def wfG (z : Row) : Prop := isC (z 96) ∧ isC (z 97)
theorem opM_all (z : Row) : opM z (-1) = opA := funext (fun t => by
  unfold opM
  exact decide_eq_true (Or.inl rfl))
/-- the turns that an order takes from a cell to troop k -/
def ordT (z : Row) (a : Int) (k : Nat) : Int := if seeI z a (tf z k 1) = 1 then 1 else if dS z a (tf z k 1) = -1 then -1 else (dS z a (tf z k 1) + 2) / 3
/-- from its own general -/
abbrev ordG (z : Row) (k : Nat) : Int := ordT z (z (96 + tf z k 0).toNat) k
theorem ordT_b {z : Row} {a : Int} {k : Nat} (ha : isC a) (hk : wfT1 z k) : -1 ≤ ordT z a k ∧ ordT z a k ≤ 33 := by
  have hc : isC (tf z k 1) := by unfold isC; have := hk.2.1; omega
  have := dS_b (z := z) ha hc
  unfold ordT
  repeat' split
  all_goals omega
def whyN (z : Row) (k : Nat) : Int := if tf z k 4 = 2 then 1 else if ordG z k = -1 then 2 else if z 195 = 30 then 3 else 0
/-- an order more -/
def giveZ (z : Row) (k c : Int) : Row := uz (uz (uz (uz (uz (uz z (196 + 4 * z 195).toNat (z 317)) (196 + 4 * z 195 + 1).toNat k) (196 + 4 * z 195 + 2).toNat c) (196 + 4 * z 195 + 3).toNat (z 316 + ordG z k.toNat)) 317 (z 317 + 1)) 195 (z 195 + 1)
/-! ===== the model: a troop marches ===== -/
/-- a step that leads nearer to the goal, to a free cell -/
def mW (z f : Row) (c w : Int) : Prop := stT z c w ≠ -1 ∧ f (stT z c w).toNat ≠ -1 ∧ f (stT z c w).toNat = f c.toNat - 1 ∧ tAt z (stT z c w) = -1
/-- the first one of the last n ways, -1 -/
def nxN (z f : Row) (c : Int) : Nat → Int
  | 0 => -1
  | n + 1 => if stT z c (3 - n) ≠ -1 ∧ f (stT z c (3 - n)).toNat ≠ -1 ∧ f (stT z c (3 - n)).toNat = f c.toNat - 1 ∧ tAt z (stT z c (3 - n)) = -1 then stT z c (3 - n) else nxN z f c n
theorem nxN_congr {z f g : Row} {c : Int} (hc : isC c) (h : ∀ t : Int, isC t → f t.toNat = g t.toNat) : ∀ n : Nat, n ≤ 4 → nxN z f c n = nxN z g c n := by
  intro n
  induction n with
  | zero => intro _; rfl
  | succ n ih =>
    intro hn
    unfold nxN
    rw [ih (by omega)]
    rcases stT_cell (z := z) hc (d := 3 - n) (by omega) with q | q
    · rw [if_neg (fun w => w.1 q), if_neg (fun w => w.1 q)]
    · rw [h _ q.1, h _ hc]
theorem nxN_cell {z f : Row} {c : Int} (hc : isC c) : ∀ n : Nat, n ≤ 4 → nxN z f c n = -1 ∨ isC (nxN z f c n) := by
  intro n
  induction n with
  | zero => intro _; exact Or.inl rfl
  | succ n ih =>
    intro hn
    unfold nxN
    split
    · rename_i q
      exact Or.inr ((stT_cell (z := z) hc (d := 3 - n) (by omega)).resolve_left q.1).1
    · exact ih (by omega)
theorem nxN_none {z f : Row} {c : Int} (hc : isC c) (hf : f c.toNat = -1) (hb : ∀ t : Int, isC t → -1 ≤ f t.toNat) : ∀ n : Nat, n ≤ 4 → nxN z f c n = -1 := by
  intro n
  induction n with
  | zero => intro _; rfl
  | succ n ih =>
    intro hn
    unfold nxN
    rw [if_neg (fun w => ?_)]
    · exact ih (by omega)
    · have h1 := hb _ ((stT_cell (z := z) hc (d := 3 - n) (by omega)).resolve_left w.1).1
      have h2 := w.2.2.1
      omega
theorem uz_self (z : Row) (i : Nat) : uz z i (z i) = z := funext (fun j => by
  by_cases h : j = i
  · rw [h, uz_same]
  · rw [uz_ne z _ h])
/-- where troop k goes -/
def mvC (z : Row) (k : Nat) : Int :=
  if tf z k 4 = 1 then (if stT z (tf z k 1) (if tf z k 0 = 0 then 3 else 1) ≠ -1 ∧ tAt z (stT z (tf z k 1) (if tf z k 0 = 0 then 3 else 1)) = -1 then stT z (tf z k 1) (if tf z k 0 = 0 then 3 else 1) else tf z k 1)
  else if tf z k 4 = 2 ∨ tf z k 1 = tf z k 3 then tf z k 1
  else if nxN z (dF z (opM z k) (tf z k 3)) (tf z k 1) 4 = -1 then tf z k 1 else nxN z (dF z (opM z k) (tf z k 3)) (tf z k 1) 4
def marchZ (z : Row) (k : Nat) : Row := uz z (99 + 8 * k + 1) (mvC z k)
/-! ===== the model: what a troop loses ===== -/
def lsN (z : Row) (k : Nat) : Nat → Int
  | 0 => 0
  | n + 1 => lsN z k n + (if nb (tf z k 1) n ≠ -1 ∧ tAt z (nb (tf z k 1) n) ≠ -1 ∧ tf z (tAt z (nb (tf z k 1) n)).toNat 0 ≠ tf z k 0 then (if z (tf z k 1).toNat < z (nb (tf z k 1) n).toNat then 2 else 1) else 0)
theorem lsN_b (z : Row) (k : Nat) : ∀ n : Nat, 0 ≤ lsN z k n ∧ lsN z k n ≤ 2 * n := by
  intro n
  induction n with
  | zero =>
    show 0 ≤ (0 : Int) ∧ (0 : Int) ≤ 2 * ((0 : Nat) : Int)
    omega
  | succ k ih =>
    unfold lsN
    repeat' split
    all_goals omega
def lossZ (z : Row) (k : Nat) : Int := if tf z k 4 = 2 then 0 else if lsN z k 4 < tf z k 2 then lsN z k 4 else tf z k 2
theorem lossZ_b {z : Row} {k : Nat} (hs : 0 ≤ tf z k 2 ∧ tf z k 2 ≤ 20) : 0 ≤ lossZ z k ∧ lossZ z k ≤ 8 ∧ (tf z k 4 ≠ 2 → lossZ z k ≤ tf z k 2) := by
  have := lsN_b z k 4
  unfold lossZ
  repeat' split
  all_goals omega
/-! ===== the model: all troops fight at once ===== -/
theorem wfH_uz {z : Row} (h : wfH z) {i : Nat} (v : Int) (hi : 96 ≤ i) : wfH (uz z i v) := fun j hj => by
  rw [uz_ne z v (by omega : j ≠ i)]
  exact h j hj
theorem tf_uz {z : Row} {k l f g : Nat} {v : Int} (hf : f < 8) (hg : g < 8) : tf (uz z (99 + 8 * k + f) v) l g = if l = k ∧ g = f then v else tf z l g := by
  unfold tf uz
  by_cases h : l = k ∧ g = f
  · rw [if_pos h, if_pos (by rw [h.1, h.2])]
  · rw [if_neg h, if_neg (by omega)]
theorem tf_off {z : Row} {i l g : Nat} {v : Int} (hi : i < 99 ∨ 195 ≤ i) (hl : l < 12) (hg : g < 8) : tf (uz z i v) l g = tf z l g := by
  unfold tf
  exact uz_ne z v (by omega)
def fA (z : Row) : Nat → Row
  | 0 => z
  | n + 1 => uz (fA z n) (99 + 8 * n + 6) (lossZ (fA z n) n)
theorem fA_s (z : Row) (n : Nat) : fA z (n + 1) = uz (fA z n) (99 + 8 * n + 6) (lossZ (fA z n) n) := rfl
theorem fA_inv {z : Row} : ∀ n : Nat, (∀ i : Nat, i < 99 ∨ 99 + 8 * n ≤ i → fA z n i = z i) ∧ (∀ l g : Nat, g < 8 → g ≠ 6 → tf (fA z n) l g = tf z l g) ∧ (∀ l : Nat, l < n → ∃ m : Nat, m < n ∧ tf (fA z n) l 6 = lossZ (fA z m) l ∧ ∀ g : Nat, g < 8 → g ≠ 6 → tf (fA z m) l g = tf z l g) := by
  intro n
  induction n with
  | zero => exact ⟨fun i _ => rfl, fun l g _ _ => rfl, fun l hl => absurd hl (Nat.not_lt_zero _)⟩
  | succ n ih =>
    rw [fA_s]
    refine ⟨fun i hi => ?_, fun l g h8 h6 => ?_, fun l hl => ?_⟩
    · rw [uz_ne _ _ (by omega : i ≠ 99 + 8 * n + 6)]; exact ih.1 i (by omega)
    · rw [tf_uz (by decide) h8, if_neg (fun w => h6 w.2)]; exact ih.2.1 l g h8 h6
    · rw [tf_uz (by decide) (by decide)]
      by_cases e : l = n
      · rw [if_pos ⟨e, rfl⟩, e]
        exact ⟨n, Nat.lt_succ_self n, rfl, fun g h8 h6 => ih.2.1 n g h8 h6⟩
      · rw [if_neg (fun w => e w.1)]
        obtain ⟨m, h1, h2, h3⟩ := ih.2.2 l (by omega)
        exact ⟨m, by omega, h2, h3⟩
theorem fA_T {z : Row} (ht : wfT z) (hn : wfN z) (n : Nat) : wfT (fA z n) := fun k hk => by
  have hi := fA_inv (z := z) n
  rw [hi.1 98 (Or.inl (by decide))] at hk
  have h := ht k hk
  unfold wfT1 at h ⊢
  rw [hi.2.1 k 0 (by decide) (by decide), hi.2.1 k 1 (by decide) (by decide), hi.2.1 k 2 (by decide) (by decide), hi.2.1 k 3 (by decide) (by decide), hi.2.1 k 4 (by decide) (by decide), hi.2.1 k 5 (by decide) (by decide), hi.2.1 k 7 (by decide) (by decide)]
  refine ⟨h.1, h.2.1, h.2.2.1, h.2.2.2.1, h.2.2.2.2.1, h.2.2.2.2.2.1, ?_, h.2.2.2.2.2.2.2⟩
  by_cases e : k < n
  · obtain ⟨m, h1, h2, h3⟩ := hi.2.2 k e
    rw [h2]
    have := lossZ_b (z := fA z m) (k := k) (by rw [h3 2 (by decide) (by decide)]; exact h.2.2.1)
    omega
  · have : tf (fA z n) k 6 = tf z k 6 := hi.1 _ (Or.inr (by omega))
    rw [this]
    exact h.2.2.2.2.2.2.1
theorem fA_H {z : Row} (hh : wfH z) (n : Nat) : wfH (fA z n) := fun j hj => by
  rw [(fA_inv (z := z) n).1 j (Or.inl (by omega))]
  exact hh j hj
theorem fA_N {z : Row} (n : Nat) : fA z n 98 = z 98 := (fA_inv (z := z) n).1 98 (Or.inl (by decide))
/-- troop n takes its loss -/
def fB1 (y : Row) (n : Nat) : Row := uz (uz (uz y (99 + 8 * n + 2) (y (99 + 8 * n + 2) - y (99 + 8 * n + 6))) (319 + y (99 + 8 * n + 0)).toNat (y (319 + y (99 + 8 * n + 0)).toNat + y (99 + 8 * n + 6))) (99 + 8 * n + 4) (if y (99 + 8 * n + 2) - y (99 + 8 * n + 6) = 0 then 2 else y (99 + 8 * n + 4))
def fB (y : Row) : Nat → Row
  | 0 => y
  | n + 1 => fB1 (fB y n) n
theorem fB_s (y : Row) (n : Nat) : fB y (n + 1) = fB1 (fB y n) n := rfl
/-! ===== losses are taken ===== -/
theorem fB_inv {y : Row} : ∀ j : Nat, j ≤ 12 → (∀ l : Nat, l < j → (0 ≤ tf y l 0 ∧ tf y l 0 ≤ 1) ∧ 0 ≤ tf y l 6 ∧ tf y l 6 ≤ 20) →
    (∀ i : Nat, i < 99 ∨ (195 ≤ i ∧ i ≠ 319 ∧ i ≠ 320) → fB y j i = y i) ∧
    (∀ l g : Nat, l < 12 → g < 8 → tf (fB y j) l g = if l < j ∧ g = 2 then tf y l 2 - tf y l 6 else if l < j ∧ g = 4 then (if tf y l 2 - tf y l 6 = 0 then 2 else tf y l 4) else tf y l g) ∧
    (y 319 ≤ fB y j 319 ∧ fB y j 319 ≤ y 319 + 20 * j) ∧ (y 320 ≤ fB y j 320 ∧ fB y j 320 ≤ y 320 + 20 * j) := by
  intro j
  induction j with
  | zero =>
    intro _ _
    refine ⟨fun i _ => rfl, fun l g _ _ => ?_, ?_, ?_⟩
    · rw [if_neg (fun w => absurd w.1 (Nat.not_lt_zero _)), if_neg (fun w => absurd w.1 (Nat.not_lt_zero _))]
      rfl
    · show y 319 ≤ y 319 ∧ y 319 ≤ y 319 + 20 * ((0 : Nat) : Int)
      omega
    · show y 320 ≤ y 320 ∧ y 320 ≤ y 320 + 20 * ((0 : Nat) : Int)
      omega
  | succ j ih =>
    intro hj hs
    obtain ⟨h1, h2, h3, h4⟩ := ih (by omega) (fun l hl => hs l (by omega))
    have hsj := hs j (Nat.lt_succ_self j)
    rw [fB_s]
    generalize fB y j = w at *
    have w0 : w (99 + 8 * j + 0) = tf y j 0 := by have := h2 j 0 (by omega) (by decide); rw [if_neg (by omega), if_neg (by omega)] at this; exact this
    have w2 : w (99 + 8 * j + 2) = tf y j 2 := by have := h2 j 2 (by omega) (by decide); rw [if_neg (by omega), if_neg (by omega)] at this; exact this
    have w4 : w (99 + 8 * j + 4) = tf y j 4 := by have := h2 j 4 (by omega) (by decide); rw [if_neg (by omega), if_neg (by omega)] at this; exact this
    have w6 : w (99 + 8 * j + 6) = tf y j 6 := by have := h2 j 6 (by omega) (by decide); rw [if_neg (by omega), if_neg (by omega)] at this; exact this
    unfold fB1
    rw [w0, w2, w4, w6]
    generalize hq : (319 + tf y j 0).toNat = q
    have q1 : q = 319 ∨ q = 320 := by omega
    refine ⟨fun i hi => ?_, fun l g hl hg => ?_, ?_, ?_⟩
    · rw [uz_ne _ _ (by omega), uz_ne _ _ (by omega), uz_ne _ _ (by omega)]
      exact h1 i hi
    · rw [tf_uz (by decide) hg]
      by_cases e4 : l = j ∧ g = 4
      · rw [if_pos e4, if_neg (show ¬ (l < j + 1 ∧ g = 2) by omega), if_pos (show l < j + 1 ∧ g = 4 by omega), e4.1]
      · rw [if_neg e4, tf_off (by omega) hl hg, tf_uz (by decide) hg]
        by_cases e2 : l = j ∧ g = 2
        · rw [if_pos e2, if_pos (by omega), e2.1]
        · rw [if_neg e2, h2 l g hl hg]
          by_cases c2 : l < j ∧ g = 2
          · rw [if_pos c2, if_pos (by omega)]
          · by_cases c4 : l < j ∧ g = 4
            · rw [if_neg c2, if_pos c4, if_neg (show ¬ (l < j + 1 ∧ g = 2) by omega), if_pos (show l < j + 1 ∧ g = 4 by omega)]
            · rw [if_neg c2, if_neg c4, if_neg (by omega), if_neg (by omega)]
    · rw [uz_ne _ _ (by omega : 319 ≠ 99 + 8 * j + 4)]
      rcases q1 with q1 | q1
      · rw [q1, uz_same]; omega
      · rw [q1, uz_ne _ _ (by decide), uz_ne _ _ (by omega)]; omega
    · rw [uz_ne _ _ (by omega : 320 ≠ 99 + 8 * j + 4)]
      rcases q1 with q1 | q1
      · rw [q1, uz_ne _ _ (by decide), uz_ne _ _ (by omega)]; omega
      · rw [q1, uz_same]; omega
/-! ===== the model: fight ===== -/
def fightZ (z : Row) : Row := fB (fA z (z 98).toNat) (z 98).toNat
/-! ===== the model: routed troops become steady ===== -/
/-- 1 if one of the first n troops is an enemy of troop k, not gone, and seen -/
def seN (z : Row) (k : Nat) : Nat → Int
  | 0 => 0
  | n + 1 => if seN z k n = 1 ∨ (tf z n 4 ≠ 2 ∧ tf z n 0 ≠ tf z k 0 ∧ seeI z (tf z k 1) (tf z n 1) = 1) then 1 else 0
theorem seN_b (z : Row) (k n : Nat) : seN z k n = 0 ∨ seN z k n = 1 := by
  cases n with
  | zero => exact Or.inl rfl
  | succ n => unfold seN; split; exact Or.inr rfl; exact Or.inl rfl
def settZ (z : Row) (k : Nat) : Row :=
  if tf z k 4 = 0 ∧ 0 < tf z k 6 ∧ 2 * tf z k 2 ≤ tf z k 5 then uz z (99 + 8 * k + 4) 1
  else if tf z k 4 = 1 ∧ tf z k 6 = 0 ∧ seN z k (z 98).toNat = 0 then uz (uz z (99 + 8 * k + 4) 0) (99 + 8 * k + 3) (tf z k 1) else z
/-! ===== the model: orders come ===== -/
def comeZ (z : Row) (k : Nat) (v : Int) : Row :=
  if z (99 + 8 * k + 4) = 0 then uz (uz z (99 + 8 * k + 3) v) (99 + 8 * k + 7) (z (99 + 8 * k + 7) + 1) else uz z 318 (z 318 + 1)
/-! ===== all orders that are due come, the others close up ===== -/
def cpZ (z : Row) (k l : Nat) : Nat → Row
  | 0 => z
  | i + 1 => uz (cpZ z k l i) (196 + 4 * l + i) (cpZ z k l i (196 + 4 * k + i))
theorem cpZ_s (z : Row) (k l i : Nat) : cpZ z k l (i + 1) = uz (cpZ z k l i) (196 + 4 * l + i) (cpZ z k l i (196 + 4 * k + i)) := rfl
theorem cpZ_at {z : Row} {k l : Nat} (hl : l ≤ k) : ∀ i : Nat, i ≤ 4 → ∀ j : Nat, cpZ z k l i j = if 196 + 4 * l ≤ j ∧ j < 196 + 4 * l + i then z (196 + 4 * k + (j - (196 + 4 * l))) else z j := by
  intro i
  induction i with
  | zero => intro _ j; rw [if_neg (by omega)]; rfl
  | succ i ih =>
    intro hi j
    rw [cpZ_s]
    by_cases e : j = 196 + 4 * l + i
    · rw [e, uz_same, ih (by omega), if_neg (by omega), if_pos (by omega)]
      congr 1
      omega
    · rw [uz_ne _ _ e, ih (by omega)]
      by_cases c : 196 + 4 * l ≤ j ∧ j < 196 + 4 * l + i
      · rw [if_pos c, if_pos (by omega)]
      · rw [if_neg c, if_neg (by omega)]
def cmS (z : Row) : Nat → Row × Int
  | 0 => (z, 0)
  | k + 1 => if (cmS z k).1 (196 + 4 * k + 3) = (cmS z k).1 316 then (comeZ (cmS z k).1 ((cmS z k).1 (196 + 4 * k + 1)).toNat ((cmS z k).1 (196 + 4 * k + 2)), (cmS z k).2) else (cpZ (cmS z k).1 k (cmS z k).2.toNat 4, (cmS z k).2 + 1)
theorem cmS_s (z : Row) (k : Nat) : cmS z (k + 1) = if (cmS z k).1 (196 + 4 * k + 3) = (cmS z k).1 316 then (comeZ (cmS z k).1 ((cmS z k).1 (196 + 4 * k + 1)).toNat ((cmS z k).1 (196 + 4 * k + 2)), (cmS z k).2) else (cpZ (cmS z k).1 k (cmS z k).2.toNat 4, (cmS z k).2 + 1) := rfl
def comeAllZ (z : Row) : Row := uz (cmS z (z 195).toNat).1 195 (cmS z (z 195).toNat).2
theorem comeZ_off {z : Row} {k i : Nat} {v : Int} (hk : k < 12) (hi : i < 99 ∨ 195 ≤ i) (h8 : i ≠ 318) : comeZ z k v i = z i := by
  unfold comeZ
  split
  · rw [uz_ne _ _ (by omega), uz_ne _ _ (by omega)]
  · rw [uz_ne _ _ h8]
theorem comeZ_m {z : Row} {k : Nat} {v : Int} (hk : k < 12) : z 318 ≤ comeZ z k v 318 ∧ comeZ z k v 318 ≤ z 318 + 1 := by
  unfold comeZ
  split
  · rw [uz_ne _ _ (by omega), uz_ne _ _ (by omega)]; omega
  · rw [uz_same]; omega
theorem comeZ_t {z : Row} {k l g : Nat} {v : Int} (hl : l < 12) (hg : g < 8) (h3 : g ≠ 3) (h7 : g ≠ 7) : tf (comeZ z k v) l g = tf z l g := by
  unfold comeZ
  split
  · rw [tf_uz (by decide) hg, if_neg (fun w => h7 w.2), tf_uz (by decide) hg, if_neg (fun w => h3 w.2)]
  · rw [tf_off (by omega) hl hg]
theorem comeZ_3 {z : Row} {k l : Nat} {v : Int} (hl : l < 12) : tf (comeZ z k v) l 3 = tf z l 3 ∨ tf (comeZ z k v) l 3 = v := by
  unfold comeZ
  split
  · rw [tf_uz (by decide) (by decide), if_neg (by omega), tf_uz (by decide) (by decide)]
    split
    · exact Or.inr rfl
    · exact Or.inl rfl
  · exact Or.inl (tf_off (by omega) hl (by decide))
theorem comeZ_7 {z : Row} {k l : Nat} {v : Int} (hl : l < 12) : tf z l 7 ≤ tf (comeZ z k v) l 7 ∧ tf (comeZ z k v) l 7 ≤ tf z l 7 + 1 := by
  unfold comeZ
  split
  · rw [tf_uz (by decide) (by decide)]
    split
    · rename_i h
      rw [h.1]
      show tf z k 7 ≤ tf z k 7 + 1 ∧ tf z k 7 + 1 ≤ tf z k 7 + 1
      omega
    · rw [tf_uz (by decide) (by decide), if_neg (by omega)]
      omega
  · rw [tf_off (by omega) hl (by decide)]
    omega
theorem cm_inv {z : Row} (ho : ∀ k : Nat, (k : Int) < z 195 → (0 ≤ z (196 + 4 * k + 1) ∧ z (196 + 4 * k + 1) < 12) ∧ isC (z (196 + 4 * k + 2))) (h30 : z 195 ≤ 30) : ∀ k : Nat, (k : Int) ≤ z 195 →
    (0 ≤ (cmS z k).2 ∧ (cmS z k).2 ≤ k) ∧
    (∀ i : Nat, i < 99 ∨ i = 195 ∨ 196 + 4 * k ≤ i → i ≠ 318 → (cmS z k).1 i = z i) ∧
    (z 318 ≤ (cmS z k).1 318 ∧ (cmS z k).1 318 ≤ z 318 + k) ∧
    (∀ l g : Nat, l < 12 → g < 8 → g ≠ 3 → g ≠ 7 → tf (cmS z k).1 l g = tf z l g) ∧
    (∀ l : Nat, l < 12 → tf z l 7 ≤ tf (cmS z k).1 l 7 ∧ tf (cmS z k).1 l 7 ≤ tf z l 7 + k) ∧
    (∀ l : Nat, l < 12 → isC (tf z l 3) → isC (tf (cmS z k).1 l 3)) := by
  intro k
  induction k with
  | zero =>
    intro _
    refine ⟨?_, fun i _ _ => rfl, ?_, fun l g _ _ _ _ => rfl, fun l _ => ?_, fun l _ h => h⟩
    · show 0 ≤ (0 : Int) ∧ (0 : Int) ≤ ((0 : Nat) : Int)
      omega
    · show z 318 ≤ z 318 ∧ z 318 ≤ z 318 + ((0 : Nat) : Int)
      omega
    · show tf z l 7 ≤ tf z l 7 ∧ tf z l 7 ≤ tf z l 7 + ((0 : Nat) : Int)
      omega
  | succ k ih =>
    intro hk
    obtain ⟨h1, h2, h3, h4, h5, h6⟩ := ih (by omega)
    have hok := ho k (by omega)
    have e1 := h2 (196 + 4 * k + 1) (by omega) (by omega)
    have e2 := h2 (196 + 4 * k + 2) (by omega) (by omega)
    rw [cmS_s]
    generalize cmS z k = S at *
    split
    · rw [e1, e2]
      have hkt : (z (196 + 4 * k + 1)).toNat < 12 := by omega
      refine ⟨by show 0 ≤ S.2 ∧ S.2 ≤ ((k + 1 : Nat) : Int); omega, fun i hi h8 => ?_, ?_, fun l g hl hg g3 g7 => ?_, fun l hl => ?_, fun l hl hc => ?_⟩
      · show comeZ _ _ _ i = z i
        rw [comeZ_off hkt (by omega) h8]
        exact h2 i (by omega) h8
      · have := comeZ_m (z := S.1) (v := z (196 + 4 * k + 2)) hkt
        show z 318 ≤ comeZ _ _ _ 318 ∧ comeZ _ _ _ 318 ≤ z 318 + ((k + 1 : Nat) : Int)
        omega
      · show tf (comeZ _ _ _) l g = tf z l g
        rw [comeZ_t hl hg g3 g7]
        exact h4 l g hl hg g3 g7
      · have a := comeZ_7 (z := S.1) (k := (z (196 + 4 * k + 1)).toNat) (v := z (196 + 4 * k + 2)) hl
        have b := h5 l hl
        show tf z l 7 ≤ tf (comeZ _ _ _) l 7 ∧ tf (comeZ _ _ _) l 7 ≤ tf z l 7 + ((k + 1 : Nat) : Int)
        omega
      · show isC (tf (comeZ _ _ _) l 3)
        rcases comeZ_3 (z := S.1) (k := (z (196 + 4 * k + 1)).toNat) (v := z (196 + 4 * k + 2)) hl with a | a
        · rw [a]; exact h6 l hl hc
        · rw [a]; exact hok.2
    · have hc := cpZ_at (z := S.1) (k := k) (l := S.2.toNat) (by omega) 4 (by decide)
      have hlow : ∀ i : Nat, i < 196 → cpZ S.1 k S.2.toNat 4 i = S.1 i := fun i hi => by rw [hc i, if_neg (by omega)]
      refine ⟨by show 0 ≤ S.2 + 1 ∧ S.2 + 1 ≤ ((k + 1 : Nat) : Int); omega, fun i hi h8 => ?_, ?_, fun l g hl hg g3 g7 => ?_, fun l hl => ?_, fun l hl hcc => ?_⟩
      · show cpZ _ _ _ _ i = z i
        rw [hc i, if_neg (by omega)]
        exact h2 i (by omega) h8
      · show z 318 ≤ cpZ _ _ _ _ 318 ∧ cpZ _ _ _ _ 318 ≤ z 318 + ((k + 1 : Nat) : Int)
        rw [hc 318, if_neg (by omega)]
        omega
      · show tf (cpZ _ _ _ _) l g = tf z l g
        unfold tf
        rw [hlow _ (by omega)]
        exact h4 l g hl hg g3 g7
      · have b := h5 l hl
        show tf z l 7 ≤ tf (cpZ _ _ _ _) l 7 ∧ tf (cpZ _ _ _ _) l 7 ≤ tf z l 7 + ((k + 1 : Nat) : Int)
        unfold tf at b ⊢
        rw [hlow _ (by omega)]
        omega
      · have b := h6 l hl hcc
        show isC (tf (cpZ _ _ _ _) l 3)
        unfold tf at b ⊢
        rw [hlow _ (by omega)]
        exact b
/-! ===== what holds of every row ===== -/
/-- the gone have no strength, nobody grows -/
def wfS (z : Row) : Prop := ∀ k : Nat, (k : Int) < z 98 → (tf z k 4 = 2 → tf z k 2 = 0) ∧ tf z k 2 ≤ tf z k 5
theorem mvC_cell {z : Row} {k : Nat} (ht : wfT1 z k) : isC (mvC z k) := by
  have hc : isC (tf z k 1) := by have := ht.2.1; unfold isC; omega
  have hw : 0 ≤ (if tf z k 0 = 0 then (3 : Int) else 1) ∧ (if tf z k 0 = 0 then (3 : Int) else 1) < 4 := by split <;> decide
  unfold mvC
  generalize (if tf z k 0 = 0 then (3 : Int) else 1) = w at *
  split
  · split
    · rename_i q
      exact ((stT_cell (z := z) hc hw).resolve_left q.1).1
    · exact hc
  · split
    · exact hc
    · split
      · exact hc
      · rename_i q
        exact (nxN_cell hc 4 (by decide)).resolve_left q
theorem nxN_free {z f : Row} {c : Int} : ∀ n : Nat, nxN z f c n = -1 ∨ tAt z (nxN z f c n) = -1 := by
  intro n
  induction n with
  | zero => exact Or.inl rfl
  | succ n ih =>
    unfold nxN
    split
    · rename_i q; exact Or.inr q.2.2.2
    · exact ih
theorem mvC_free {z : Row} {k : Nat} : mvC z k = tf z k 1 ∨ tAt z (mvC z k) = -1 := by
  have hw : 0 ≤ (if tf z k 0 = 0 then (3 : Int) else 1) ∧ (if tf z k 0 = 0 then (3 : Int) else 1) < 4 := by split <;> decide
  unfold mvC
  generalize (if tf z k 0 = 0 then (3 : Int) else 1) = w at *
  split
  · split
    · rename_i q; exact Or.inr q.2
    · exact Or.inl rfl
  · split
    · exact Or.inl rfl
    · split
      · exact Or.inl rfl
      · rename_i q; exact Or.inr ((nxN_free 4).resolve_left q)
theorem marchZ_t {z : Row} {k l g : Nat} (hg : g < 8) : tf (marchZ z k) l g = if l = k ∧ g = 1 then mvC z k else tf z l g := tf_uz (by decide) hg
theorem marchZ_off {z : Row} {k i : Nat} (h : i < 99 ∨ 195 ≤ i) (hk : k < 12) : marchZ z k i = z i := uz_ne z _ (by omega)
theorem marchZ_T {z : Row} {k : Nat} (hk : (k : Int) < z 98) (hn : wfN z) (ht : wfT z) : wfT (marchZ z k) := fun l hl => by
  have hn2 := hn.2
  rw [marchZ_off (Or.inl (by decide)) (by omega)] at hl
  have h := ht l hl
  have hm := mvC_cell (ht k hk)
  unfold isC at hm
  unfold wfT1 at h ⊢
  rw [marchZ_t (by decide), marchZ_t (by decide), marchZ_t (by decide), marchZ_t (by decide), marchZ_t (by decide), marchZ_t (by decide), marchZ_t (by decide), marchZ_t (by decide)]
  rw [if_neg (by omega : ¬ (l = k ∧ 0 = 1)), if_neg (by omega : ¬ (l = k ∧ 2 = 1)), if_neg (by omega : ¬ (l = k ∧ 3 = 1)), if_neg (by omega : ¬ (l = k ∧ 4 = 1)), if_neg (by omega : ¬ (l = k ∧ 5 = 1)), if_neg (by omega : ¬ (l = k ∧ 6 = 1)), if_neg (by omega : ¬ (l = k ∧ 7 = 1))]
  refine ⟨h.1, ?_, h.2.2⟩
  split
  · omega
  · exact h.2.1
theorem marchZ_U {z : Row} {k : Nat} (hk : (k : Int) < z 98) (hn : wfN z) (hu : wfU z) : wfU (marchZ z k) := fun a b ha hb => by
  have hn2 := hn.2
  rw [marchZ_off (Or.inl (by decide)) (by omega)] at ha hb
  rw [marchZ_t (by decide), marchZ_t (by decide), marchZ_t (by decide), marchZ_t (by decide)]
  rw [if_neg (by omega : ¬ (a = k ∧ 4 = 1)), if_neg (by omega : ¬ (b = k ∧ 4 = 1))]
  intro a4 b4 e
  by_cases ea : a = k
  · by_cases eb : b = k
    · rw [ea, eb]
    · rw [if_pos ⟨ea, rfl⟩, if_neg (fun w => eb w.1)] at e
      rcases mvC_free (z := z) (k := k) with m | m
      · exact hu a b ha hb a4 b4 (by rw [ea, ← m]; exact e)
      · exact absurd ⟨b4, e.symm⟩ (tA_none.mp m b (by omega))
  · by_cases eb : b = k
    · rw [if_neg (fun w => ea w.1), if_pos ⟨eb, rfl⟩] at e
      rcases mvC_free (z := z) (k := k) with m | m
      · exact hu a b ha hb a4 b4 (by rw [eb, ← m]; exact e)
      · exact absurd ⟨a4, e⟩ (tA_none.mp m a (by omega))
    · rw [if_neg (fun w => ea w.1), if_neg (fun w => eb w.1)] at e
      exact hu a b ha hb a4 b4 e
theorem wfU_of {y z : Row} (h98 : y 98 = z 98) (h1 : ∀ l : Nat, (l : Int) < z 98 → tf y l 1 = tf z l 1) (h4 : ∀ l : Nat, (l : Int) < z 98 → tf y l 4 ≠ 2 → tf z l 4 ≠ 2) (hu : wfU z) : wfU y := fun a b ha hb a4 b4 e => by
  rw [h98] at ha hb
  rw [h1 a ha, h1 b hb] at e
  exact hu a b ha hb (h4 a ha a4) (h4 b hb b4) e
theorem settZ_off {z : Row} {k i : Nat} (h : i < 99 ∨ 195 ≤ i) (hk : k < 12) : settZ z k i = z i := by
  unfold settZ
  split
  · exact uz_ne z _ (by omega)
  · split
    · rw [uz_ne _ _ (by omega), uz_ne _ _ (by omega)]
    · rfl
theorem settZ_t {z : Row} {k l g : Nat} (hg : g < 8) (h3 : g ≠ 3) (h4 : g ≠ 4) : tf (settZ z k) l g = tf z l g := by
  unfold settZ
  split
  · rw [tf_uz (by decide) hg, if_neg (fun w => h4 w.2)]
  · split
    · rw [tf_uz (by decide) hg, if_neg (fun w => h3 w.2), tf_uz (by decide) hg, if_neg (fun w => h4 w.2)]
    · rfl
theorem settZ_4 {z : Row} {k l : Nat} : tf (settZ z k) l 4 = tf z l 4 ∨ (l = k ∧ (tf z l 4 = 0 ∨ tf z l 4 = 1) ∧ (tf (settZ z k) l 4 = 0 ∨ tf (settZ z k) l 4 = 1)) := by
  unfold settZ
  split
  · rename_i q
    rw [tf_uz (by decide) (by decide)]
    split
    · rename_i e; exact Or.inr ⟨e.1, Or.inl (by rw [e.1]; exact q.1), Or.inr rfl⟩
    · exact Or.inl rfl
  · split
    · rename_i q
      rw [tf_uz (by decide) (by decide), if_neg (by omega), tf_uz (by decide) (by decide)]
      split
      · rename_i e; exact Or.inr ⟨e.1, Or.inr (by rw [e.1]; exact q.1), Or.inl rfl⟩
      · exact Or.inl rfl
    · exact Or.inl rfl
theorem settZ_3 {z : Row} {k l : Nat} : tf (settZ z k) l 3 = tf z l 3 ∨ (l = k ∧ tf (settZ z k) l 3 = tf z l 1) := by
  unfold settZ
  split
  · rw [tf_uz (by decide) (by decide), if_neg (by omega)]; exact Or.inl rfl
  · split
    · rw [tf_uz (by decide) (by decide)]
      split
      · rename_i e; exact Or.inr ⟨e.1, by rw [e.1]⟩
      · rw [tf_uz (by decide) (by decide), if_neg (by omega)]; exact Or.inl rfl
    · exact Or.inl rfl
theorem settZ_T {z : Row} {k : Nat} (hk : (k : Int) < z 98) (hn : wfN z) (ht : wfT z) : wfT (settZ z k) := fun l hl => by
  have hn2 := hn.2
  rw [settZ_off (Or.inl (by decide)) (by omega)] at hl
  have h := ht l hl
  have h3 := settZ_3 (z := z) (k := k) (l := l)
  have h4 := settZ_4 (z := z) (k := k) (l := l)
  unfold wfT1 at h ⊢
  rw [settZ_t (g := 0) (by decide) (by decide) (by decide), settZ_t (g := 1) (by decide) (by decide) (by decide), settZ_t (g := 2) (by decide) (by decide) (by decide), settZ_t (g := 5) (by decide) (by decide) (by decide), settZ_t (g := 6) (by decide) (by decide) (by decide), settZ_t (g := 7) (by decide) (by decide) (by decide)]
  omega
theorem settZ_U {z : Row} {k : Nat} (hk : (k : Int) < z 98) (hn : wfN z) (hu : wfU z) : wfU (settZ z k) := by
  have hn2 := hn.2
  refine wfU_of (settZ_off (Or.inl (by decide)) (by omega)) (fun l hl => settZ_t (by decide) (by decide) (by decide)) (fun l hl h => ?_) hu
  have h4 := settZ_4 (z := z) (k := k) (l := l)
  omega
/-- troop l behind a fight -/
theorem fightZ_t {z : Row} (hn : wfN z) (ht : wfT z) {l : Nat} (hl : (l : Int) < z 98) : ∃ v : Int, 0 ≤ v ∧ v ≤ tf z l 2 ∧ tf (fightZ z) l 6 = v ∧ tf (fightZ z) l 2 = tf z l 2 - v ∧ tf (fightZ z) l 4 = (if tf z l 2 - v = 0 then 2 else tf z l 4) ∧ ∀ g : Nat, g < 8 → g ≠ 2 → g ≠ 4 → g ≠ 6 → tf (fightZ z) l g = tf z l g := by
  have hn1 := hn.1
  have hn2 := hn.2
  have hA := fA_inv (z := z) (z 98).toNat
  have hT := fA_T ht hn (z 98).toNat
  have h98 := fA_N (z := z) (z 98).toNat
  have hB := fB_inv (y := fA z (z 98).toNat) (z 98).toNat (by omega) (fun l hl => ⟨(hT l (by omega)).1, (hT l (by omega)).2.2.2.2.2.2.1⟩)
  obtain ⟨m, m1, m2, m3⟩ := hA.2.2 l (by omega)
  have hlt := ht l hl
  unfold wfT1 at hlt
  have hb := lossZ_b (z := fA z m) (k := l) (by rw [m3 2 (by decide) (by decide)]; exact hlt.2.2.1)
  rw [m3 2 (by decide) (by decide), m3 4 (by decide) (by decide)] at hb
  have e2 := hA.2.1 l 2 (by decide) (by decide)
  have e4 := hA.2.1 l 4 (by decide) (by decide)
  refine ⟨lossZ (fA z m) l, hb.1, ?_, ?_, ?_, ?_, fun g g8 g2 g4 g6 => ?_⟩
  · by_cases q : tf z l 4 = 2
    · have : lossZ (fA z m) l = 0 := by unfold lossZ; rw [m3 4 (by decide) (by decide)]; exact if_pos q
      omega
    · exact hb.2.2 q
  · show tf (fB _ _) l 6 = _
    rw [hB.2.1 l 6 (by omega) (by decide), if_neg (by omega), if_neg (by omega), m2]
  · show tf (fB _ _) l 2 = _
    rw [hB.2.1 l 2 (by omega) (by decide), if_pos (by omega), e2, m2]
  · show tf (fB _ _) l 4 = _
    rw [hB.2.1 l 4 (by omega) (by decide), if_neg (show ¬ (l < (z 98).toNat ∧ 4 = 2) by omega), if_pos (show l < (z 98).toNat ∧ 4 = 4 by omega), e2, e4, m2]
  · show tf (fB _ _) l g = _
    rw [hB.2.1 l g (by omega) g8, if_neg (by omega), if_neg (by omega)]
    exact hA.2.1 l g g8 g6
theorem fightZ_off {z : Row} (hn : wfN z) (ht : wfT z) {i : Nat} (hi : i < 99 ∨ (195 ≤ i ∧ i ≠ 319 ∧ i ≠ 320)) : fightZ z i = z i := by
  have hn1 := hn.1
  have hn2 := hn.2
  have hT := fA_T ht hn (z 98).toNat
  have h98 := fA_N (z := z) (z 98).toNat
  have hB := fB_inv (y := fA z (z 98).toNat) (z 98).toNat (by omega) (fun l hl => ⟨(hT l (by omega)).1, (hT l (by omega)).2.2.2.2.2.2.1⟩)
  show fB _ _ i = _
  rw [hB.1 i hi]
  exact (fA_inv (z := z) (z 98).toNat).1 i (by omega)
theorem fightZ_T {z : Row} (hn : wfN z) (ht : wfT z) : wfT (fightZ z) := fun l hl => by
  rw [fightZ_off hn ht (Or.inl (by decide))] at hl
  have h := ht l hl
  obtain ⟨v, v0, v1, e6, e2, e4, eg⟩ := fightZ_t hn ht hl
  unfold wfT1 at h ⊢
  rw [e6, e2, e4, eg 0 (by decide) (by decide) (by decide) (by decide), eg 1 (by decide) (by decide) (by decide) (by decide), eg 3 (by decide) (by decide) (by decide) (by decide), eg 5 (by decide) (by decide) (by decide) (by decide), eg 7 (by decide) (by decide) (by decide) (by decide)]
  split <;> omega
theorem fightZ_S {z : Row} (hn : wfN z) (ht : wfT z) (hs : wfS z) : wfS (fightZ z) := fun l hl => by
  rw [fightZ_off hn ht (Or.inl (by decide))] at hl
  have h := hs l hl
  obtain ⟨v, v0, v1, e6, e2, e4, eg⟩ := fightZ_t hn ht hl
  rw [e2, e4, eg 5 (by decide) (by decide) (by decide) (by decide)]
  split <;> omega
theorem fightZ_U {z : Row} (hn : wfN z) (ht : wfT z) (hu : wfU z) : wfU (fightZ z) := by
  refine wfU_of (fightZ_off hn ht (Or.inl (by decide))) (fun l hl => ?_) (fun l hl h => ?_) hu
  · obtain ⟨v, v0, v1, e6, e2, e4, eg⟩ := fightZ_t hn ht hl
    exact eg 1 (by decide) (by decide) (by decide) (by decide)
  · obtain ⟨v, v0, v1, e6, e2, e4, eg⟩ := fightZ_t hn ht hl
    rw [e4] at h
    split at h
    · exact absurd rfl h
    · exact h
theorem comeAll_all {z : Row} (ho : ∀ k : Nat, (k : Int) < z 195 → (0 ≤ z (196 + 4 * k + 1) ∧ z (196 + 4 * k + 1) < 12) ∧ isC (z (196 + 4 * k + 2))) (h30 : 0 ≤ z 195 ∧ z 195 ≤ 30) :
    (∀ i : Nat, i < 99 ∨ 316 ≤ i → i ≠ 318 → comeAllZ z i = z i) ∧
    (0 ≤ comeAllZ z 195 ∧ comeAllZ z 195 ≤ z 195) ∧
    (∀ l g : Nat, l < 12 → g < 8 → g ≠ 3 → g ≠ 7 → tf (comeAllZ z) l g = tf z l g) ∧
    (∀ l : Nat, l < 12 → isC (tf z l 3) → isC (tf (comeAllZ z) l 3)) ∧
    (∀ l : Nat, l < 12 → tf z l 7 ≤ tf (comeAllZ z) l 7) := by
  have h := cm_inv (z := z) ho h30.2 (z 195).toNat (by omega)
  have ht : ∀ l g : Nat, l < 12 → g < 8 → tf (comeAllZ z) l g = tf (cmS z (z 195).toNat).1 l g := fun l g hl hg => tf_off (by omega) hl hg
  refine ⟨fun i hi h8 => ?_, ?_, fun l g hl hg g3 g7 => ?_, fun l hl hc => ?_, fun l hl => ?_⟩
  · show uz _ 195 _ i = _
    rw [uz_ne _ _ (by omega)]
    exact h.2.1 i (by omega) h8
  · show 0 ≤ uz _ 195 _ 195 ∧ uz _ 195 _ 195 ≤ _
    rw [uz_same]
    omega
  · rw [ht l g hl hg]; exact h.2.2.2.1 l g hl hg g3 g7
  · rw [ht l 3 hl (by decide)]; exact h.2.2.2.2.2 l hl hc
  · rw [ht l 7 hl (by decide)]; exact (h.2.2.2.2.1 l hl).1
