/-! ===== a troop more ===== -/
theorem clZ_at (z : Row) (n : Nat) : ∀ k j : Nat, clZ z n k j = if 99 + 8 * n ≤ j ∧ j < 99 + 8 * n + k then 0 else z j := by
  intro k
  induction k with
  | zero => intro j; rw [if_neg (by omega)]; rfl
  | succ k ih =>
    intro j
    rw [clZ_s]
    by_cases e : j = 99 + 8 * n + k
    · rw [e, uz_same, if_pos (by omega)]
    · rw [uz_ne _ _ e, ih]
      by_cases c : 99 + 8 * n ≤ j ∧ j < 99 + 8 * n + k
      · rw [if_pos c, if_pos (by omega)]
      · rw [if_neg c, if_neg (by omega)]
theorem adZ_off {z : Row} {n : Nat} {s c v : Int} {j : Nat} (h : j < 99 + 8 * n ∨ 99 + 8 * n + 8 ≤ j) (h8 : j ≠ 98) : adZ z n s c v j = z j := by
  unfold adZ
  rw [uz_ne _ _ h8, uz_ne _ _ (by omega), uz_ne _ _ (by omega), uz_ne _ _ (by omega), uz_ne _ _ (by omega), uz_ne _ _ (by omega), clZ_at, if_neg (by omega)]
theorem adZ_98 {z : Row} {n : Nat} {s c v : Int} : adZ z n s c v 98 = z 98 + 1 := uz_same _ _ _
theorem adZ_n {z : Row} {n : Nat} {s c v : Int} : tf (adZ z n s c v) n 0 = s ∧ tf (adZ z n s c v) n 1 = c ∧ tf (adZ z n s c v) n 2 = v ∧ tf (adZ z n s c v) n 3 = c ∧ tf (adZ z n s c v) n 4 = 0 ∧ tf (adZ z n s c v) n 5 = v ∧ tf (adZ z n s c v) n 6 = 0 ∧ tf (adZ z n s c v) n 7 = 0 := by
  unfold adZ tf
  refine ⟨?_, ?_, ?_, ?_, ?_, ?_, ?_, ?_⟩
  · rw [uz_ne _ _ (by omega), uz_ne _ _ (by omega), uz_ne _ _ (by omega), uz_ne _ _ (by omega), uz_ne _ _ (by omega), uz_same]
  · rw [uz_ne _ _ (by omega), uz_ne _ _ (by omega), uz_ne _ _ (by omega), uz_ne _ _ (by omega), uz_same]
  · rw [uz_ne _ _ (by omega), uz_ne _ _ (by omega), uz_ne _ _ (by omega), uz_same]
  · rw [uz_ne _ _ (by omega), uz_ne _ _ (by omega), uz_same]
  · rw [uz_ne _ _ (by omega), uz_ne _ _ (by omega), uz_ne _ _ (by omega), uz_ne _ _ (by omega), uz_ne _ _ (by omega), uz_ne _ _ (by omega), clZ_at, if_pos (by omega)]
  · rw [uz_ne _ _ (by omega), uz_same]
  · rw [uz_ne _ _ (by omega), uz_ne _ _ (by omega), uz_ne _ _ (by omega), uz_ne _ _ (by omega), uz_ne _ _ (by omega), uz_ne _ _ (by omega), clZ_at, if_pos (by omega)]
  · rw [uz_ne _ _ (by omega), uz_ne _ _ (by omega), uz_ne _ _ (by omega), uz_ne _ _ (by omega), uz_ne _ _ (by omega), uz_ne _ _ (by omega), clZ_at, if_pos (by omega)]
theorem adZ_t {z : Row} {n : Nat} {s c v : Int} {l g : Nat} (hl : l ≠ n) (hg : g < 8) : tf (adZ z n s c v) l g = tf z l g := adZ_off (by omega) (by omega)
theorem adZ_WF {z : Row} {s c v : Int} (hW : WF z) (hs : 0 ≤ s ∧ s ≤ 1) (hc : isC c) (hv : 1 ≤ v ∧ v ≤ 20) (h12 : z 98 ≠ 12) (ha : tAt z c = -1) : WF (adZ z (z 98).toNat s c v) := by
  obtain ⟨⟨hh, hn, ht, hu, hg, hS⟩, ho, hC⟩ := hW
  have hn1 := hn.1
  have hn2 := hn.2
  have h98 : adZ z (z 98).toNat s c v 98 = z 98 + 1 := adZ_98
  have hn' := adZ_n (z := z) (n := (z 98).toNat) (s := s) (c := c) (v := v)
  have off : ∀ j : Nat, j < 98 ∨ 195 ≤ j → adZ z (z 98).toNat s c v j = z j := fun j hj => adZ_off (by omega) (by omega)
  have et : ∀ l g : Nat, (l : Int) < z 98 → g < 8 → tf (adZ z (z 98).toNat s c v) l g = tf z l g := fun l g hl hg => adZ_t (by omega) hg
  have et7 : ∀ l : Nat, l ≠ (z 98).toNat → tf (adZ z (z 98).toNat s c v) l 7 = tf z l 7 := fun l hl => adZ_t hl (by decide)
  generalize adZ z (z 98).toNat s c v = y at *
  have hc' : 0 ≤ c ∧ c < 96 := hc
  refine ⟨⟨fun j hj => ?_, ?_, fun l hl => ?_, fun k l hk hl k4 l4 e => ?_, ?_, fun l hl => ?_⟩, ?_, ?_⟩
  · rw [off j (by omega)]; exact hh j hj
  · unfold wfN; omega
  · rw [h98] at hl
    unfold wfT1
    rcases (by omega : (l : Int) < z 98 ∨ l = (z 98).toNat) with q | q
    · rw [et l 0 q (by decide), et l 1 q (by decide), et l 2 q (by decide), et l 3 q (by decide), et l 4 q (by decide), et l 5 q (by decide), et l 6 q (by decide), et l 7 q (by decide)]
      exact ht l q
    · rw [q]
      omega
  · rw [h98] at hk hl
    rcases (by omega : (k : Int) < z 98 ∨ k = (z 98).toNat) with q | q
    · rw [et k 4 q (by decide)] at k4
      rw [et k 1 q (by decide)] at e
      rcases (by omega : (l : Int) < z 98 ∨ l = (z 98).toNat) with u | u
      · rw [et l 4 u (by decide)] at l4
        rw [et l 1 u (by decide)] at e
        exact hu k l q u k4 l4 e
      · rw [u, hn'.2.1] at e
        exact absurd ⟨k4, e⟩ (tA_none.mp ha k (by omega))
    · rcases (by omega : (l : Int) < z 98 ∨ l = (z 98).toNat) with u | u
      · rw [et l 4 u (by decide)] at l4
        rw [et l 1 u (by decide), q, hn'.2.1] at e
        exact absurd ⟨l4, e.symm⟩ (tA_none.mp ha l (by omega))
      · rw [q, u]
  · unfold wfG at hg ⊢
    rw [off 96 (by omega), off 97 (by omega)]
    exact hg
  · rw [h98] at hl
    rcases (by omega : (l : Int) < z 98 ∨ l = (z 98).toNat) with q | q
    · rw [et l 4 q (by decide), et l 2 q (by decide), et l 5 q (by decide)]
      exact hS l q
    · rw [q]
      omega
  · rw [off 316 (by omega)]
    unfold wfO at ho ⊢
    rw [off 195 (by omega), h98]
    refine ⟨ho.1, fun k hk => ?_⟩
    have h30 := ho.1
    rw [off (196 + 4 * k + 1) (by omega), off (196 + 4 * k + 2) (by omega), off (196 + 4 * k + 3) (by omega)]
    have := ho.2 k hk
    exact ⟨⟨this.1.1, by omega⟩, this.2⟩
  · unfold wfC at hC ⊢
    rw [off 316 (by omega), off 317 (by omega), off 318 (by omega), off 319 (by omega), off 320 (by omega)]
    refine ⟨hC.1, hC.2.1, hC.2.2.1, hC.2.2.2.1, hC.2.2.2.2.1, fun l hl => ?_⟩
    rcases (by omega : l = (z 98).toNat ∨ l ≠ (z 98).toNat) with q | q
    · rw [q]; omega
    · rw [et7 l q]
      exact hC.2.2.2.2.2 l hl
theorem D_recruit {G : amG} {I : Nat → Nat → Int} {R : Nat → Nat → Option Nat} {L : Nat → Nat → Int64} {x c t : Nat} {Q : amR → amH → Prop} (hG : amG0 G) {b : Nat} (hB : wb b) (hRW : RW R b) {z : Row} (hW : WV I b z) (hn : 0 ≤ z 98 ∧ z 98 < 12) {s v w : Int} (hQ : ∀ J : Nat → Nat → Int, (∀ c : Nat, c < b ∨ b + 49 ≤ c → J c = I c) → WV J b (adZ z (z 98).toNat s v w) → (∀ k : Nat, odC J b k = odC I b k) → Q (Sum.inl (some (aI (z 98)))) (J, R, L, SH, x, 0, 0)) : CT G sX8_recruit [aR (some b), aI s, aI v, aI w] (I, R, L, SH, x, c, t) Q := by
  refine CT_of ok_X8_recruit hG (Nat.le_of_ble_eq_true rfl) ?_
  show X G mX8_recruit Q 0 _ [] (I, R, L, SH, x, 0, 0)
  refine B_X8_recruit_0 ?_
  try dsimp only
  try simp (disch := omega) only [wN hW]
  refine ⟨sw0 hB, ?_⟩
  try simp (disch := omega) only [wN hW]
  refine ⟨sw0 hB, _, hRW.tr, ?_⟩
  refine ⟨_, _, sw4 hB, ⟨by decide, by decide⟩, ⟨by omega, by omega⟩, _, hRW.t (by omega), ?_⟩
  refine ⟨⟨Nat.zero_le _, Nat.zero_le _, Nat.le_of_ble_eq_true rfl⟩, swT hB (by omega), ?_⟩
  refine D_muster hG (swT hB (by omega)) (fun J j1 j2 => ?_)
  have hJ3 : J b 3 = z 98 := by rw [j1 _ (by omega)]; exact wN hW
  refine af_N0 rfl rfl rfl ?_
  try dsimp only
  try simp (disch := omega) only [wN hW]
  refine B_X8_recruit_19 ?_
  try dsimp only
  try simp (disch := omega) only [wN hW]
  refine ⟨rfl, ?_⟩
  refine ⟨sw0 hB, ?_⟩
  try simp (disch := omega) only [wN hW]
  rw [hJ3]
  refine ⟨by (refine ⟨?_, ?_⟩ <;> omega), ?_⟩
  refine ⟨sw0 hB, ?_⟩
  try simp (disch := omega) only [wN hW]
  have ad := adZ_n (z := z) (n := (z 98).toNat) (s := s) (c := v) (v := w)
  have off : ∀ j : Nat, j < 98 ∨ 195 ≤ j → adZ z (z 98).toNat s v w j = z j := fun j hj => adZ_off (by omega) (by omega)
  have F : ∀ c : Nat, c ≠ b → u2 J b 3 (z 98 + 1) c = J c := fun c hc => u2_off _ _ _ hc
  refine hQ _ (fun c hc => ?_) ⟨fun j hj => ?_, ⟨?_, ?_⟩, ?_, ?_, ?_, ?_, ?_, ⟨?_, ?_⟩, fun k f hk hf => ?_⟩ (fun k => ?_)
  · rw [F c (by omega), j1 c (by omega)]
  · rw [F _ (by omega), j1 _ (by omega), off j (by omega)]; exact wH hW j hj
  · rw [F _ (by omega), j1 _ (by omega), off 96 (by omega)]; exact wG0 hW
  · rw [F _ (by omega), j1 _ (by omega), off 97 (by omega)]; exact wG1 hW
  · rw [u2_same]; exact adZ_98.symm
  · rw [u2_ne _ _ (by omega), j1 _ (by omega), off 195 (by omega)]; exact wO hW
  · rw [u2_ne _ _ (by omega), j1 _ (by omega), off 316 (by omega)]; exact wTu hW
  · rw [u2_ne _ _ (by omega), j1 _ (by omega), off 317 (by omega)]; exact wGi hW
  · rw [u2_ne _ _ (by omega), j1 _ (by omega), off 318 (by omega)]; exact wMi hW
  · rw [F _ (by omega), j1 _ (by omega), off 319 (by omega)]; exact wL0 hW
  · rw [F _ (by omega), j1 _ (by omega), off 320 (by omega)]; exact wL1 hW
  · rw [adZ_98] at hk
    rw [F _ (by omega)]
    by_cases e : k = (z 98).toNat
    · rw [e]
      rcases (by omega : f = 0 ∨ f = 1 ∨ f = 2 ∨ f = 3 ∨ f = 4 ∨ f = 5 ∨ f = 6 ∨ f = 7) with q | q | q | q | q | q | q | q <;> subst q <;> omega
    · rw [adZ_t e hf, j1 _ (by omega)]
      exact wT hW k f (by omega) hf
  · unfold odC
    rw [F _ (by omega), j1 _ (by omega)]
