/-! ===== the search itself, for its values ===== -/
def bW (z : Row) (op : Int → Bool) (k : Int) (S : Row × Row × Int) (d : Int) : Row × Row × Int :=
  if stT z (S.2.1 k.toNat) d ≠ -1 ∧ S.1 (stT z (S.2.1 k.toNat) d).toNat = -1 ∧ op (stT z (S.2.1 k.toNat) d) = true then
    (uz S.1 (stT z (S.2.1 k.toNat) d).toNat (S.1 (S.2.1 k.toNat).toNat + 1), uz S.2.1 S.2.2.toNat (stT z (S.2.1 k.toNat) d), S.2.2 + 1) else S
def bR (z : Row) (op : Int → Bool) (c : Int) : Nat → Row × Row × Int
  | 0 => (uz (fun _ => -1) c.toNat 0, fun _ => c, 1)
  | k + 1 => if (k : Int) < (bR z op c k).2.2 then bW z op k (bW z op k (bW z op k (bW z op k (bR z op c k) 0) 1) 2) 3 else bR z op c k
theorem bW_inv {z : Row} {op : Int → Bool} {c k d : Int} {S : Row × Row × Int} (hc : isC c) (hk : k < S.2.2) (hd : d < 4) (h : bInv z op c k d S.1 S.2.1 S.2.2) : bInv z op c k (d + 1) (bW z op k S d).1 (bW z op k S d).2.1 (bW z op k S d).2.2 ∧ k < (bW z op k S d).2.2 := by
  unfold bW
  split
  · rename_i q
    exact ⟨bInv_take h hk hd q.1 q.2.1 q.2.2 hc, Int.lt_trans hk (Int.lt_succ _)⟩
  · rename_i q
    refine ⟨bInv_skip h hk ?_ hd, hk⟩
    by_cases q1 : stT z (S.2.1 k.toNat) d = -1
    · exact Or.inl q1
    · by_cases q2 : S.1 (stT z (S.2.1 k.toNat) d).toNat = -1
      · exact Or.inr (Or.inr (fun q3 => q ⟨q1, q2, q3⟩))
      · exact Or.inr (Or.inl q2)
theorem bR_inv {z : Row} {op : Int → Bool} {c : Int} (hc : isC c) : ∀ n : Nat, ∃ k : Int, bInv z op c k 0 (bR z op c n).1 (bR z op c n).2.1 (bR z op c n).2.2 ∧ (k = n ∨ (bR z op c n).2.2 ≤ k) ∧ k ≤ n := by
  intro n
  induction n with
  | zero =>
    refine ⟨0, bInv_start hc (fun j _ => ?_) rfl, Or.inl rfl, Int.le_refl _⟩
    rfl
  | succ n ih =>
    obtain ⟨k, h1, h2, h3⟩ := ih
    unfold bR
    split
    · rename_i q
      rcases h2 with h2 | h2
      · rw [h2] at h1
        have a0 := bW_inv hc q (by decide) h1
        have a1 := bW_inv hc a0.2 (by decide) a0.1
        have a2 := bW_inv hc a1.2 (by decide) a1.1
        have a3 := bW_inv hc a2.2 (by decide) a2.1
        exact ⟨(n : Int) + 1, bInv_next a3.1 a3.2, Or.inl rfl, by omega⟩
      · exfalso; omega
    · rename_i q
      exact ⟨k, h1, Or.inr (by rcases h2 with h2 | h2; rw [h2]; omega; exact h2), by omega⟩
/-- how far the cells are from c -/
def dF (z : Row) (op : Int → Bool) (c : Int) : Row := (bR z op c 96).1
theorem dF_sp {z : Row} {op : Int → Bool} {c : Int} (hc : isC c) : dSp z op c (dF z op c) := by
  obtain ⟨k, h1, h2, _⟩ := bR_inv (z := z) (op := op) hc 96
  refine bInv_end h1 hc ?_
  have := bInv_le h1
  omega
theorem dF_b {z : Row} {op : Int → Bool} {c t : Int} (hc : isC c) (ht : isC t) : -1 ≤ dF z op c t.toNat ∧ dF z op c t.toNat < 96 := by
  rcases dF_sp (z := z) (op := op) hc t ht with q | q <;> omega
/-! where all cells are open ways lead there and back -/
abbrev opA : Int → Bool := fun _ => true
theorem nb_back {c w : Int} (hc : isC c) (hw : 0 ≤ w ∧ w < 4) (hn : nb c w ≠ -1) : nb (nb c w) ((w + 2) % 4) = c := by
  unfold isC at hc
  rcases (by omega : w = 0 ∨ w = 1 ∨ w = 2 ∨ w = 3) with e | e | e | e <;> subst e <;> unfold nb at hn ⊢ <;> simp only [Int.reduceEq, Int.reduceAdd, Int.reduceMod, if_true, if_false, reduceIte, ne_eq] at hn ⊢ <;> (repeat' split) <;> (repeat' split at hn) <;> omega
theorem isE_back {z : Row} {p t : Int} (h : isE z opA p t) : isE z opA t p := by
  have ht := isE_cell h
  obtain ⟨hp, w, w0, w4, h1, h2, _⟩ := h
  rcases stT_cell (z := z) hp ⟨w0, w4⟩ with q | ⟨q1, q2, q3⟩
  · exact absurd (h1.symm.trans q) h2
  · rw [h1] at q1 q2 q3
    have hb := nb_back hp ⟨w0, w4⟩ (by rw [← q2]; exact h2)
    rw [← q2] at hb
    refine ⟨ht, (w + 2) % 4, by omega, by omega, ?_, by unfold isC at hp; omega, rfl⟩
    unfold stT
    rw [hb, if_pos ⟨by unfold isC at hp; omega, q3.2, q3.1⟩]
theorem wk_front {z : Row} {a p : Int} (h : isE z opA a p) : ∀ {n : Nat} {b : Int}, wk z opA p n b → wk z opA a (n + 1) b
  | 0, _, e => ⟨a, rfl, by rw [show _ = p from e]; exact h⟩
  | _ + 1, _, ⟨m, h1, h2⟩ => ⟨m, wk_front h h1, h2⟩
theorem wk_back {z : Row} {a : Int} : ∀ {n : Nat} {b : Int}, wk z opA a n b → wk z opA b n a
  | 0, _, e => (show _ = a from e).symm
  | _ + 1, _, ⟨_, h1, h2⟩ => wk_front (isE_back h2) (wk_back h1)
/-- how many steps lead from a to b, -1 -/
def dS (z : Row) (a b : Int) : Int := dF z opA a b.toNat
theorem dSp_sym {z : Row} {a b : Int} {f g : Row} (hf : dSp z opA a f) (hg : dSp z opA b g) (ha : isC a) (hb : isC b) : f b.toNat = g a.toNat := by
  rcases hf b hb with p | p <;> rcases hg a ha with q | q
  · rw [p.1, q.1]
  · exact absurd (wk_back q.2.2.1) (p.2 _)
  · exact absurd (wk_back p.2.2.1) (q.2 _)
  · have h1 := p.2.2.2 _ (wk_back q.2.2.1)
    have h2 := q.2.2.2 _ (wk_back p.2.2.1)
    omega
theorem dS_sym {z : Row} {a b : Int} (ha : isC a) (hb : isC b) : dS z a b = dS z b a := dSp_sym (dF_sp ha) (dF_sp hb) ha hb
theorem dS_b {z : Row} {a b : Int} (ha : isC a) (hb : isC b) : -1 ≤ dS z a b ∧ dS z a b < 96 := dF_b ha hb
