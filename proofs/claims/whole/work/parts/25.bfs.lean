/-! ===== ways: a search over the field, whatever its program ===== -/
/-- one step leads from p to t, and t is open -/
def isE (z : Row) (op : Int → Bool) (p t : Int) : Prop := isC p ∧ ∃ w : Int, 0 ≤ w ∧ w < 4 ∧ stT z p w = t ∧ t ≠ -1 ∧ op t = true
/-- a way of n steps from c to t -/
def wk (z : Row) (op : Int → Bool) (c : Int) : Nat → Int → Prop
  | 0, t => t = c
  | n + 1, t => ∃ p : Int, wk z op c n p ∧ isE z op p t
theorem isE_cell {z : Row} {op : Int → Bool} {p t : Int} (h : isE z op p t) : isC t := by
  obtain ⟨hp, w, h0, h1, h2, h3, _⟩ := h
  rcases stT_cell (z := z) hp ⟨h0, h1⟩ with q | q
  · exact absurd (h2.symm.trans q) h3
  · rw [← h2]; exact q.1
theorem wk_cell {z : Row} {op : Int → Bool} {c : Int} (hc : isC c) : ∀ {n : Nat} {t : Int}, wk z op c n t → isC t
  | 0, _, h => by rw [show _ = c from h]; exact hc
  | _ + 1, _, ⟨_, _, h⟩ => isE_cell h
/-- how many of the first n cells have been reached -/
def cntA (f : Row) : Nat → Int
  | 0 => 0
  | k + 1 => cntA f k + (if f k = -1 then 0 else 1)
theorem cntA_b (f : Row) : ∀ n : Nat, 0 ≤ cntA f n ∧ cntA f n ≤ n := by
  intro n
  induction n with
  | zero =>
    show 0 ≤ (0 : Int) ∧ (0 : Int) ≤ ((0 : Nat) : Int)
    omega
  | succ k ih => unfold cntA; split <;> omega
theorem cntA_lt {f : Row} {t : Nat} (ht : f t = -1) : ∀ n : Nat, t < n → cntA f n < n := by
  intro n
  induction n with
  | zero => intro h; exact absurd h (Nat.not_lt_zero _)
  | succ k ih =>
    intro h
    unfold cntA
    rcases Nat.lt_or_ge t k with q | q
    · have := ih q; split <;> omega
    · have e : t = k := by omega
      have := cntA_b f k
      rw [← e, if_pos ht]
      rw [← e] at this
      omega
theorem cntA_far {f : Row} {t : Nat} {v : Int} : ∀ n : Nat, n ≤ t → cntA (uz f t v) n = cntA f n := by
  intro n
  induction n with
  | zero => intro _; rfl
  | succ k ih =>
    intro h
    unfold cntA
    rw [ih (by omega), uz_ne f v (by omega : k ≠ t)]
theorem cntA_set {f : Row} {t : Nat} {v : Int} (ht : f t = -1) (hv : v ≠ -1) : ∀ n : Nat, t < n → cntA (uz f t v) n = cntA f n + 1 := by
  intro n
  induction n with
  | zero => intro h; exact absurd h (Nat.not_lt_zero _)
  | succ k ih =>
    intro h
    unfold cntA
    rcases Nat.lt_or_ge t k with q | q
    · rw [ih q, uz_ne f v (by omega : k ≠ t)]; omega
    · have e : t = k := by omega
      rw [← e, cntA_far t (Nat.le_refl t), uz_same, if_neg hv, if_pos ht]
      omega
theorem cntA_one {f : Row} {c : Nat} (h : ∀ j : Nat, j < 96 → f j = if j = c then 0 else -1) : ∀ n : Nat, n ≤ 96 → cntA f n = if c < n then 1 else 0 := by
  intro n
  induction n with
  | zero => intro _; rw [if_neg (Nat.not_lt_zero _)]; rfl
  | succ k ih =>
    intro hk
    unfold cntA
    rw [ih (by omega), h k (by omega)]
    rcases Nat.lt_trichotomy c k with q | q | q
    · rw [if_neg (show ¬ k = c by omega), if_pos q, if_pos rfl, if_pos (by omega)]; omega
    · rw [if_neg (by omega : ¬ c < k), if_pos q.symm, if_neg (by decide), if_pos (by omega)]; omega
    · rw [if_neg (show ¬ k = c by omega), if_neg (by omega : ¬ c < k), if_pos rfl, if_neg (by omega)]; omega
/-- what holds while the k-th cell of the queue is looked at, d of its ways done -/
def bInv (z : Row) (op : Int → Bool) (c k d : Int) (f q : Row) (e : Int) : Prop :=
  (0 ≤ k ∧ k ≤ e ∧ 1 ≤ e ∧ 0 ≤ d) ∧ cntA f 96 = e ∧
  (∀ i : Nat, (i : Int) < e → isC (q i) ∧ 0 ≤ f (q i).toNat) ∧
  (∀ t : Int, isC t → f t.toNat ≠ -1 → ∃ i : Nat, (i : Int) < e ∧ q i = t) ∧
  (∀ i j : Nat, i ≤ j → (j : Int) < e → f (q i).toNat ≤ f (q j).toNat) ∧
  (∀ i : Nat, (i : Int) < e → k < e → f (q i).toNat ≤ f (q k.toNat).toNat + 1) ∧
  (∀ i : Nat, (i : Int) < e → ∀ w : Int, 0 ≤ w → w < 4 → ((i : Int) < k ∨ ((i : Int) = k ∧ w < d)) → stT z (q i) w ≠ -1 → op (stT z (q i) w) = true → 0 ≤ f (stT z (q i) w).toNat ∧ f (stT z (q i) w).toNat ≤ f (q i).toNat + 1) ∧
  (∀ t : Int, isC t → (f t.toNat = -1 ∨ (0 ≤ f t.toNat ∧ wk z op c (f t.toNat).toNat t)) ∧ f t.toNat < e) ∧
  f c.toNat = 0
theorem bInv_start {z : Row} {op : Int → Bool} {c : Int} {f q : Row} (hc : isC c) (hf : ∀ j : Nat, j < 96 → f j = if j = c.toNat then 0 else -1) (hq : q 0 = c) : bInv z op c 0 0 f q 1 := by
  have hc' := hc
  unfold isC at hc'
  have f0 : f c.toNat = 0 := by rw [hf _ (by omega), if_pos rfl]
  refine ⟨by omega, ?_, fun i hi => ?_, fun t ht h => ⟨0, by omega, ?_⟩, fun i j h1 h2 => ?_, fun i hi _ => ?_, fun i hi w _ _ h => by omega, fun t ht => ?_, f0⟩
  · rw [cntA_one hf 96 (Nat.le_refl _), if_pos (by omega)]
  · rw [show i = 0 by omega, hq, f0]; exact ⟨hc, by decide⟩
  · unfold isC at ht
    rw [hf _ (by omega)] at h
    rw [hq]
    by_cases e : t.toNat = c.toNat
    · omega
    · rw [if_neg e] at h; exact absurd rfl h
  · rw [show i = 0 by omega, show j = 0 by omega]; exact Int.le_refl _
  · rw [show i = 0 by omega]; rw [show (0 : Int).toNat = 0 from rfl]; omega
  · unfold isC at ht
    by_cases e : t.toNat = c.toNat
    · rw [e, f0]; exact ⟨Or.inr ⟨by decide, show t = c by omega⟩, by decide⟩
    · rw [hf _ (by omega), if_neg e]; exact ⟨Or.inl rfl, by decide⟩
theorem bInv_le {z : Row} {op : Int → Bool} {c k d e : Int} {f q : Row} (h : bInv z op c k d f q e) : 0 ≤ k ∧ k ≤ e ∧ 1 ≤ e ∧ e ≤ 96 := by
  have := cntA_b f 96
  have h1 := h.1
  have h2 := h.2.1
  omega
theorem bInv_room {z : Row} {op : Int → Bool} {c k d e : Int} {f q : Row} (h : bInv z op c k d f q e) {t : Int} (ht : isC t) (hf : f t.toNat = -1) : e < 96 := by
  have := cntA_lt hf 96 (by unfold isC at ht; omega)
  have h2 := h.2.1
  omega
theorem bInv_q {z : Row} {op : Int → Bool} {c k d e : Int} {f q : Row} (h : bInv z op c k d f q e) (hk : k < e) : isC (q k.toNat) ∧ 0 ≤ f (q k.toNat).toNat := h.2.2.1 k.toNat (by have := h.1; omega)
theorem bInv_b {z : Row} {op : Int → Bool} {c k d e : Int} {f q : Row} (h : bInv z op c k d f q e) {t : Int} (ht : isC t) : -1 ≤ f t.toNat ∧ f t.toNat < 96 := by
  have h1 := h.2.2.2.2.2.2.2.1 t ht
  have h2 := bInv_le h
  omega
theorem bInv_skip {z : Row} {op : Int → Bool} {c k d e : Int} {f q : Row} (h : bInv z op c k d f q e) (hk : k < e) (hs : stT z (q k.toNat) d = -1 ∨ f (stT z (q k.toNat) d).toNat ≠ -1 ∨ op (stT z (q k.toNat) d) ≠ true) (hd : d < 4) : bInv z op c k (d + 1) f q e := by
  obtain ⟨hA, hB, hC, hD, hE, hF, hG, hH, h0⟩ := h
  refine ⟨by omega, hB, hC, hD, hE, hF, fun i hi w w0 w4 hw s1 s2 => ?_, hH, h0⟩
  by_cases q1 : (i : Int) < k ∨ ((i : Int) = k ∧ w < d)
  · exact hG i hi w w0 w4 q1 s1 s2
  · have e1 : i = k.toNat := by omega
    have e2 : w = d := by omega
    rw [e1, e2] at s1 s2 ⊢
    have hq := hC k.toNat (by omega)
    have hc := ((stT_cell (z := z) hq.1 ⟨hA.2.2.2, hd⟩).resolve_left s1).1
    have h1 := (hs.resolve_left s1).resolve_right (fun w => w s2)
    have h2 := hH _ hc
    obtain ⟨j, j1, j2⟩ := hD _ hc h1
    have h3 := hF j j1 hk
    rw [j2] at h3
    exact ⟨by omega, h3⟩
theorem bInv_take {z : Row} {op : Int → Bool} {c k d e : Int} {f q : Row} (h : bInv z op c k d f q e) (hk : k < e) (hd : d < 4) (s1 : stT z (q k.toNat) d ≠ -1) (s2 : f (stT z (q k.toNat) d).toNat = -1) (s3 : op (stT z (q k.toNat) d) = true) (hcc : isC c) : bInv z op c k (d + 1) (uz f (stT z (q k.toNat) d).toNat (f (q k.toNat).toNat + 1)) (uz q e.toNat (stT z (q k.toNat) d)) (e + 1) := by
  obtain ⟨hA, hB, hC, hD, hE, hF, hG, hH, h0⟩ := h
  have hq := hC k.toNat (by omega)
  have hst := stT_cell (z := z) hq.1 ⟨hA.2.2.2, hd⟩
  generalize et : stT z (q k.toNat) d = t at *
  have hc := (hst.resolve_left s1).1
  have hc' : 0 ≤ t ∧ t < 96 := hc
  have hcc' : 0 ≤ c ∧ c < 96 := hcc
  have u1 : ∀ i : Nat, (i : Int) < e → uz q e.toNat t i = q i := fun i hi => uz_ne q t (by omega)
  have u2 : ∀ x : Nat, 0 ≤ f x → uz f t.toNat (f (q k.toNat).toNat + 1) x = f x := fun x hx => uz_ne f _ (fun w => by rw [w] at hx; omega)
  have u3 : uz f t.toNat (f (q k.toNat).toNat + 1) t.toNat = f (q k.toNat).toNat + 1 := uz_same f _ _
  have u4 : uz q e.toNat t e.toNat = t := uz_same q _ _
  refine ⟨by omega, ?_, fun i hi => ?_, fun x hx h => ?_, fun i j h1 h2 => ?_, fun i hi _ => ?_, fun i hi w w0 w4 hw r1 r2 => ?_, fun x hx => ?_, ?_⟩
  · rw [cntA_set s2 (by omega) 96 (by omega), hB]
  · by_cases q1 : (i : Int) < e
    · have := hC i q1
      rw [u1 i q1, u2 _ this.2]; exact this
    · rw [show i = e.toNat by omega, u4, u3]; exact ⟨hc, by omega⟩
  · by_cases q1 : x.toNat = t.toNat
    · have : x = t := by have := hx.1; omega
      exact ⟨e.toNat, by omega, by rw [u4, this]⟩
    · rw [uz_ne f _ q1] at h
      obtain ⟨i, i1, i2⟩ := hD x hx h
      exact ⟨i, by omega, by rw [u1 i i1, i2]⟩
  · by_cases q1 : (j : Int) < e
    · have h3 := hC i (by omega)
      have h4 := hC j q1
      rw [u1 i (by omega), u1 j q1, u2 _ h3.2, u2 _ h4.2]
      exact hE i j h1 q1
    · rw [show j = e.toNat by omega, u4, u3]
      by_cases q2 : (i : Int) < e
      · have h3 := hC i q2
        rw [u1 i q2, u2 _ h3.2]
        exact hF i q2 hk
      · rw [show i = e.toNat by omega, u4, u3]; exact Int.le_refl _
  · rw [u1 k.toNat (by omega), u2 _ hq.2]
    by_cases q2 : (i : Int) < e
    · have h3 := hC i q2
      rw [u1 i q2, u2 _ h3.2]
      exact hF i q2 hk
    · rw [show i = e.toNat by omega, u4, u3]; exact Int.le_refl _
  · have q2 : (i : Int) < e := by omega
    have h3 := hC i q2
    rw [u1 i q2] at r1 r2 ⊢
    rw [u2 _ h3.2]
    by_cases q1 : (i : Int) < k ∨ ((i : Int) = k ∧ w < d)
    · have h4 := hG i q2 w w0 w4 q1 r1 r2
      rw [u2 _ h4.1]
      exact h4
    · have e1 : i = k.toNat := by omega
      have e2 : w = d := by omega
      rw [e1, e2, et, u3]
      exact ⟨by omega, Int.le_refl _⟩
  · by_cases q1 : x.toNat = t.toNat
    · have e1 : x = t := by have := hx.1; omega
      rw [e1, u3]
      have h5 := hH _ hq.1
      refine ⟨Or.inr ⟨by omega, ?_⟩, by omega⟩
      rw [show (f (q k.toNat).toNat + 1).toNat = (f (q k.toNat).toNat).toNat + 1 by omega]
      rcases h5.1 with h6 | h6
      · omega
      · exact ⟨q k.toNat, h6.2, hq.1, d, hA.2.2.2, hd, et, s1, s3⟩
    · rw [uz_ne f _ q1]
      have := hH x hx
      exact ⟨this.1, by omega⟩
  · rw [u2 _ (by omega), h0]
theorem bInv_next {z : Row} {op : Int → Bool} {c k e : Int} {f q : Row} (h : bInv z op c k 4 f q e) (hk : k < e) : bInv z op c (k + 1) 0 f q e := by
  obtain ⟨hA, hB, hC, hD, hE, hF, hG, hH, h0⟩ := h
  refine ⟨by omega, hB, hC, hD, hE, fun i hi hk1 => ?_, fun i hi w w0 w4 hw => hG i hi w w0 w4 (by omega), hH, h0⟩
  have h1 := hF i hi hk
  have h2 := hE k.toNat (k + 1).toNat (by omega) (by omega)
  omega
/-- f tells the least ways from c -/
def dSp (z : Row) (op : Int → Bool) (c : Int) (f : Row) : Prop := ∀ t : Int, isC t → (f t.toNat = -1 ∧ ∀ n : Nat, ¬ wk z op c n t) ∨ (0 ≤ f t.toNat ∧ f t.toNat < 96 ∧ wk z op c (f t.toNat).toNat t ∧ ∀ m : Nat, wk z op c m t → f t.toNat ≤ m)
theorem dSp_uniq {z : Row} {op : Int → Bool} {c : Int} {f g : Row} (hf : dSp z op c f) (hg : dSp z op c g) {t : Int} (ht : isC t) : f t.toNat = g t.toNat := by
  rcases hf t ht with a | a <;> rcases hg t ht with b | b
  · rw [a.1, b.1]
  · exact absurd b.2.2.1 (a.2 _)
  · exact absurd a.2.2.1 (b.2 _)
  · have h1 := a.2.2.2 _ b.2.2.1
    have h2 := b.2.2.2 _ a.2.2.1
    omega
theorem bInv_end {z : Row} {op : Int → Bool} {c k e : Int} {f q : Row} (h : bInv z op c k 0 f q e) (hc : isC c) (hk : e ≤ k) : dSp z op c f := by
  have hle := bInv_le h
  obtain ⟨hA, hB, hC, hD, hE, hF, hG, hH, h0⟩ := h
  have key : ∀ (n : Nat) (t : Int), wk z op c n t → 0 ≤ f t.toNat ∧ f t.toNat ≤ n := by
    intro n
    induction n with
    | zero => intro t ht; rw [show t = c from ht, h0]; exact ⟨by decide, by decide⟩
    | succ n ih =>
      intro t ht
      obtain ⟨p, p1, p2, w, w0, w4, ws, wn, wo⟩ := ht
      have h1 := ih p p1
      obtain ⟨i, i1, i2⟩ := hD p p2 (by omega)
      have h2 := hG i i1 w w0 w4 (Or.inl (by omega)) (by rw [i2, ws]; exact wn) (by rw [i2, ws]; exact wo)
      rw [i2, ws] at h2
      omega
  intro t ht
  rcases hH t ht with ⟨h1 | h1, h2⟩
  · exact Or.inl ⟨h1, fun n hn => by have := key n t hn; omega⟩
  · exact Or.inr ⟨h1.1, by omega, h1.2, fun m hm => (key m t hm).2⟩
/-- a search that has not looked at all -/
theorem bInv_early {z : Row} {op : Int → Bool} {c k e : Int} {f q g : Row} (h : bInv z op c k 0 f q e) (hc : isC c) (hg : dSp z op c g) {s : Int} (hs : isC s) (hf : f s.toNat ≠ -1) {t : Int} (ht : isC t) : f t.toNat = g t.toNat ∨ (f t.toNat = -1 ∧ (g t.toNat = -1 ∨ g s.toNat ≤ g t.toNat)) := by
  rcases Int.lt_or_le k e with hk | hk
  · have hle := bInv_le h
    obtain ⟨hA, hB, hC, hD, hE, hF, hG, hH, h0⟩ := h
    have key : ∀ (n : Nat) (t : Int), wk z op c n t → (0 ≤ f t.toNat ∧ f t.toNat ≤ n) ∨ (f t.toNat = -1 ∧ f (q k.toNat).toNat + 1 ≤ n) := by
      intro n
      induction n with
      | zero => intro t ht; rw [show t = c from ht, h0]; exact Or.inl ⟨by decide, by decide⟩
      | succ n ih =>
        intro t ht
        have tc : isC t := wk_cell hc ht
        obtain ⟨p, p1, p2, w, w0, w4, ws, wn, wo⟩ := ht
        have h1 := ih p p1
        have ht1 := hH t tc
        have hF1 : f t.toNat ≠ -1 → f t.toNat ≤ f (q k.toNat).toNat + 1 := fun u => by
          obtain ⟨j, j1, j2⟩ := hD t tc u
          have := hF j j1 hk
          rw [j2] at this
          exact this
        rcases h1 with h1 | h1
        · obtain ⟨i, i1, i2⟩ := hD p p2 (by omega)
          by_cases ik : (i : Int) < k
          · have h2 := hG i i1 w w0 w4 (Or.inl ik) (by rw [i2, ws]; exact wn) (by rw [i2, ws]; exact wo)
            rw [i2, ws] at h2
            omega
          · have h3 := hE k.toNat i (by omega) i1
            rw [i2] at h3
            omega
        · omega
    have val : ∀ {x : Int}, isC x → f x.toNat ≠ -1 → f x.toNat = g x.toNat := fun {x} hx hn => by
      have hw := ((hH x hx).1).resolve_left hn
      rcases hg x hx with b | b
      · exact absurd hw.2 (b.2 _)
      · have h1 := b.2.2.2 _ hw.2
        have h2 := key _ x b.2.2.1
        omega
    by_cases ft : f t.toNat = -1
    · refine Or.inr ⟨ft, ?_⟩
      rcases hg t ht with b | b
      · exact Or.inl b.1
      · have h2 := key _ t b.2.2.1
        obtain ⟨j, j1, j2⟩ := hD s hs hf
        have h3 := hF j j1 hk
        rw [j2] at h3
        have h4 := val hs hf
        omega
    · exact Or.inl (val ht ft)
  · exact Or.inl (dSp_uniq (bInv_end h hc hk) hg ht)
