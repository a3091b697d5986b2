variable {sT : List (Nat × Nat)}
/-! ===== the class: ways ===== -/
def wp (p : Nat) : Prop := p = 351 ∨ p = 357
theorem sp0 {p : Nat} (h : wp p) : (SH sT)[p]? = some (4, 0) := by rcases h with h | h <;> subst h <;> exact SH_at (by decide +kernel)
theorem sp1 {p : Nat} (h : wp p) : (SH sT)[p + 1]? = some (20, 96) := by rcases h with h | h <;> subst h <;> exact SH_at (by decide +kernel)
theorem sp2 {p : Nat} (h : wp p) : (SH sT)[p + 2]? = some (20, 96) := by rcases h with h | h <;> subst h <;> exact SH_at (by decide +kernel)
theorem sp3 {p : Nat} (h : wp p) : (SH sT)[p + 3]? = some (20, 96) := by rcases h with h | h <;> subst h <;> exact SH_at (by decide +kernel)
def RP (R : Nat → Nat → Option Nat) (p : Nat) : Prop := R p 0 = some (p + 1) ∧ R p 1 = some (p + 2) ∧ R p 2 = some (p + 3)
theorem RP.st {R : Nat → Nat → Option Nat} {p : Nat} (h : RP R p) : R p 0 = some (p + 1) := h.1
theorem RP.qu {R : Nat → Nat → Option Nat} {p : Nat} (h : RP R p) : R p 1 = some (p + 2) := h.2.1
theorem RP.ta {R : Nat → Nat → Option Nat} {p : Nat} (h : RP R p) : R p 2 = some (p + 3) := h.2.2
theorem wb_le {b : Nat} (h : wb b) : 1 ≤ b ∧ b ≤ 297 := by rcases h with h | h | h | h | h | h | h <;> omega
theorem wp_le {p : Nat} (h : wp p) : 351 ≤ p ∧ p ≤ 357 := by rcases h with h | h <;> omega
/-- the rows of a search -/
def p3 (I : Nat → Nat → Int) (p : Nat) (f q : Row) : Nat → Nat → Int := fun a => if a = p + 1 then f else if a = p + 2 then q else I a
theorem p3_f (I : Nat → Nat → Int) (p : Nat) (f q : Row) : p3 I p f q (p + 1) = f := if_pos rfl
theorem p3_q (I : Nat → Nat → Int) (p : Nat) (f q : Row) : p3 I p f q (p + 2) = q := by
  unfold p3
  rw [if_neg (by omega), if_pos rfl]
theorem p3_o (I : Nat → Nat → Int) (p : Nat) (f q : Row) {a : Nat} (h : a ≠ p + 1 ∧ a ≠ p + 2) : p3 I p f q a = I a := by
  unfold p3
  rw [if_neg h.1, if_neg h.2]
theorem p3_self (I : Nat → Nat → Int) (p : Nat) : p3 I p (I (p + 1)) (I (p + 2)) = I := funext (fun a => by
  unfold p3
  split
  · rename_i h; rw [h]
  · split
    · rename_i h; rw [h]
    · rfl)
theorem u2_p3_f (I : Nat → Nat → Int) (p : Nat) (f q : Row) (k : Nat) (v : Int) : u2 (p3 I p f q) (p + 1) k v = p3 I p (uz f k v) q := funext (fun a => by
  by_cases h : a = p + 1
  · rw [h, u2_at, p3_f, p3_f]
  · rw [u2_off _ _ _ h]; unfold p3; rw [if_neg h, if_neg h])
theorem u2_p3_q (I : Nat → Nat → Int) (p : Nat) (f q : Row) (k : Nat) (v : Int) : u2 (p3 I p f q) (p + 2) k v = p3 I p f (uz q k v) := funext (fun a => by
  by_cases h : a = p + 2
  · rw [h, u2_at, p3_q, p3_q]
  · rw [u2_off _ _ _ h]; unfold p3; rw [if_neg h, if_neg h])
theorem u2_p3_o (I : Nat → Nat → Int) (p : Nat) (f q : Row) {b : Nat} (k : Nat) (v : Int) (hb : b ≠ p + 1 ∧ b ≠ p + 2) : u2 (p3 I p f q) b k v = p3 (u2 I b k v) p f q := funext (fun a => by
  by_cases h : a = b
  · rw [h, u2_at, p3_o _ _ _ _ hb, p3_o _ _ _ _ hb, u2_at]
  · rw [u2_off _ _ _ h]; unfold p3; rw [u2_off _ _ _ h])
theorem HV_p3 {I : Nat → Nat → Int} {b p : Nat} {z : Row} (hv : HV I b z) (hB : wb b) (hP : wp p) (f q : Row) : HV (p3 I p f q) b z := fun j hj => by
  have h1 := wb_le hB
  have h2 := wp_le hP
  rw [p3_o _ _ _ _ (by omega)]
  exact hv j hj
def flN (r : Row) (v : Int) : Nat → Row
  | 0 => r
  | n + 1 => uz (flN r v n) n v
theorem flN_s (r : Row) (v : Int) (n : Nat) : flN r v (n + 1) = uz (flN r v n) n v := rfl
theorem flN_at (r : Row) (v : Int) : ∀ n j : Nat, flN r v n j = if j < n then v else r j := by
  intro n
  induction n with
  | zero => intro j; rfl
  | succ n ih =>
    intro j
    rw [flN_s]
    by_cases e : j = n
    · rw [e, uz_same, if_pos (by omega)]
    · rw [uz_ne _ _ e, ih]
      by_cases c : j < n
      · rw [if_pos c, if_pos (by omega)]
      · rw [if_neg c, if_neg (by omega)]
theorem L_fill {G : amG} {I : Nat → Nat → Int} {R : Nat → Nat → Option Nat} {L : Nat → Nat → Int64} {x : Nat} {Q : amR → amH → Prop} (hG : amG0 G) {a m : Nat} {v : Int} {r : Row} (hA : (SH sT)[a]? = some (20, m)) (hm : m ≤ 1000) (hQ : Q (Sum.inl none) (pr I a (flN r v m), R, L, (SH sT), x, 0, 0)) :
    ∀ (n : Nat) (j : Int), (0 ≤ j ∧ j ≤ m ∧ (m : Int) - j < n) → X G mJ7_fill_53178 Q 5 [some (aR (some a)), some (aI v), some (aI j), some (aI m)] [] (pr I a (flN r v j.toNat), R, L, (SH sT), x, 0, 0) := by
  intro n
  induction n with
  | zero =>
    intros
    exfalso; omega
  | succ n ih =>
    intro j h1
    have hs := flN_s r v j.toNat
    refine B_J7_fill_53178_5 ?_
    try dsimp only
    try simp only [u2_pr]
    refine ⟨fun c7_0 => ?_, fun c7_0 => ?_⟩
    · refine B_J7_fill_53178_20 ?_
      try dsimp only
      try simp only [u2_pr]
      refine ⟨rfl, ?_⟩
      have e : j.toNat = m := by omega
      rw [e]
      exact hQ
    · refine ⟨_, hA, ⟨by omega, by omega⟩, ?_⟩
      try simp only [u2_pr]
      refine ⟨by (refine ⟨?_, ?_⟩ <;> omega), ?_⟩
      have e := ih (j + 1) (by omega)
      rw [show (j + 1).toNat = j.toNat + 1 by omega, hs] at e
      exact e
theorem D_fill {G : amG} {I : Nat → Nat → Int} {R : Nat → Nat → Option Nat} {L : Nat → Nat → Int64} {x c t : Nat} {Q : amR → amH → Prop} (hG : amG0 G) {a m : Nat} {v : Int} (hA : (SH sT)[a]? = some (20, m)) (hm : m ≤ 1000) (hQ : Q (Sum.inl none) (pr I a (flN (I a) v m), R, L, (SH sT), x, 0, 0)) : CT G sJ7_fill_53178 [aR (some a), aI v] (I, R, L, (SH sT), x, c, t) Q := by
  refine CT_of ok_J7_fill_53178 hG (Nat.le_of_ble_eq_true rfl) ?_
  show X G mJ7_fill_53178 Q 0 _ [] (I, R, L, (SH sT), x, 0, 0)
  refine B_J7_fill_53178_0 ?_
  try dsimp only
  refine ⟨_, _, hA, ⟨by decide, by decide, by first | decide | omega⟩, ?_⟩
  have e0 : I = pr I a (flN (I a) v (0 : Int).toNat) := (pr_self I a).symm
  have e := L_fill (L := L) (R := R) (x := x) (r := I a) hG hA hm hQ (m + 1) 0 (by omega)
  rw [← e0] at e
  exact e
theorem D_openAll {G : amG} {I : Nat → Nat → Int} {R : Nat → Nat → Option Nat} {L : Nat → Nat → Int64} {x c t : Nat} {Q : amR → amH → Prop} (hG : amG0 G) {p : Nat} (hP : wp p) (hRP : RP R p) (hQ : Q (Sum.inl none) (pr I (p + 3) (flN (I (p + 3)) 0 96), R, L, (SH sT), x, 0, 0)) : CT G sX4_openAll [aR (some p)] (I, R, L, (SH sT), x, c, t) Q := by
  refine CT_of ok_X4_openAll hG (Nat.le_of_ble_eq_true rfl) ?_
  show X G mX4_openAll Q 0 _ [] (I, R, L, (SH sT), x, 0, 0)
  refine B_X4_openAll_0 ?_
  try dsimp only
  refine ⟨sp0 hP, _, hRP.ta, ?_⟩
  refine ⟨⟨Nat.zero_le _, Nat.zero_le _, Nat.le_of_ble_eq_true rfl⟩, trivial, ?_⟩
  refine D_fill hG (sp3 hP) (by decide) ?_
  refine af_N0 rfl rfl rfl ?_
  try dsimp only
  refine B_X4_openAll_8 ?_
  try dsimp only
  refine ⟨rfl, ?_⟩
  exact hQ
theorem D_isOpen {G : amG} {I : Nat → Nat → Int} {R : Nat → Nat → Option Nat} {L : Nat → Nat → Int64} {x c t : Nat} {Q : amR → amH → Prop} (hG : amG0 G) {p : Nat} (hP : wp p) (hRP : RP R p) {v : Int} (hv : isC v) (hQ : ∀ r : Int, ((I (p + 1) v.toNat = -1 ∧ I (p + 3) v.toNat = 0) ∧ r = 1) ∨ (¬ (I (p + 1) v.toNat = -1 ∧ I (p + 3) v.toNat = 0) ∧ r = 0) → Q (Sum.inl (some (aI r))) (I, R, L, (SH sT), x, 0, 0)) : CT G sX4_isOpen [aR (some p), aI v] (I, R, L, (SH sT), x, c, t) Q := by
  refine CT_of ok_X4_isOpen hG (Nat.le_of_ble_eq_true rfl) ?_
  show X G mX4_isOpen Q 0 _ [] (I, R, L, (SH sT), x, 0, 0)
  unfold isC at hv
  refine B_X4_isOpen_0 ?_
  try dsimp only
  refine ⟨sp0 hP, _, hRP.st, ?_⟩
  refine ⟨_, sp1 hP, ⟨by omega, by omega⟩, ?_⟩
  refine ⟨fun c7_0 => ?_, fun c7_0 => ?_⟩
  · refine B_X4_isOpen_23 ?_
    try dsimp only
    refine B_X4_isOpen_24 ?_
    try dsimp only
    refine ⟨by first | exact Or.inl rfl | exact Or.inr rfl | exact Or.inl trivial | exact Or.inr trivial | omega, ?_⟩
    exact hQ _ (by omega)
  · refine ⟨sp0 hP, _, hRP.ta, ?_⟩
    refine ⟨_, sp3 hP, ⟨by omega, by omega⟩, ?_⟩
    refine ⟨fun c16_0 => ?_, fun c16_0 => ?_⟩
    · refine B_X4_isOpen_23 ?_
      try dsimp only
      refine B_X4_isOpen_24 ?_
      try dsimp only
      refine ⟨by first | exact Or.inl rfl | exact Or.inr rfl | exact Or.inl trivial | exact Or.inr trivial | omega, ?_⟩
      exact hQ _ (by omega)
    · refine B_X4_isOpen_24 ?_
      try dsimp only
      refine ⟨by first | exact Or.inl rfl | exact Or.inr rfl | exact Or.inl trivial | exact Or.inr trivial | omega, ?_⟩
      exact hQ _ (by omega)
def opT (tk : Row) : Int → Bool := fun t => decide (tk t.toNat = 0)
/-- what a search finds out that may stop where s is reached -/
def esp (z : Row) (op : Int → Bool) (c s : Int) (f : Row) : Prop := dSp z op c f ∨ (isC s ∧ f s.toNat ≠ -1 ∧ ∀ g : Row, dSp z op c g → ∀ t : Int, isC t → f t.toNat = g t.toNat ∨ (f t.toNat = -1 ∧ (g t.toNat = -1 ∨ g s.toNat ≤ g t.toNat)))
theorem esp_at {z : Row} {op : Int → Bool} {c s : Int} {f g : Row} (h : esp z op c s f) (hg : dSp z op c g) (hs : isC s) : f s.toNat = g s.toNat := by
  rcases h with h | ⟨_, h1, h2⟩
  · exact dSp_uniq h hg hs
  · exact (h2 g hg s hs).resolve_right (fun q => h1 q.1)
theorem L_spW {G : amG} {I : Nat → Nat → Int} {R : Nat → Nat → Option Nat} {L : Nat → Nat → Int64} {x : Nat} {Q : amR → amH → Prop} (hG : amG0 G) {b : Nat} (hB : wb b) (hRW : RW R b) {p : Nat} (hP : wp p) (hRP : RP R p) {z : Row} (hv : HV I b z) (hh : wfH z) {v s k c0 : Int} (hc : isC v) (hK : ∀ (f q : Row) (e : Int) (l6 l7 l8 : Option amV), bInv z (opT (I (p + 3))) v (k + 1) 0 f q e → X G mX4_spread Q 28 [some (aR (some p)), some (aR (some (b + 1))), some (aI v), some (aI s), some (aI e), some (aI (k + 1)), l6, l7, l8] [] (p3 I p f q, R, L, (SH sT), x, 0, 0)) :
    ∀ (n : Nat) (d e : Int) (f q : Row) (l8 : Option amV), 4 - d < n ∧ d ≤ 4 → k < e → q k.toNat = c0 → bInv z (opT (I (p + 3))) v k d f q e → X G mX4_spread Q 62 [some (aR (some p)), some (aR (some (b + 1))), some (aI v), some (aI s), some (aI e), some (aI k), some (aI c0), some (aI d), l8] [] (p3 I p f q, R, L, (SH sT), x, 0, 0) := by
  intro n
  induction n with
  | zero =>
    intros
    exfalso; omega
  | succ n ih =>
    intro d e f q l8 h1 hk hq0 hi
    have hb1 := wb_le hB
    have hp1 := wp_le hP
    have hv' := HV_p3 hv hB hP f q
    have hle := bInv_le hi
    have hq := bInv_q hi hk
    have hq' : 0 ≤ q k.toNat ∧ q k.toNat < 96 := hq.1
    have hqb := bInv_b hi hq.1
    have hd := hi.1.2.2.2
    rw [hq0] at hq hq' hqb
    refine B_X4_spread_62 ?_
    try dsimp only
    try simp (disch := omega) only [p3_f, p3_q, p3_o, u2_p3_f, u2_p3_q, u2_p3_o, uz_same, uz_ne, Int.reduceToNat]
    refine ⟨fun c65_0 => ?_, fun c65_0 => ?_⟩
    · refine B_X4_spread_144 ?_
      try dsimp only
      try simp (disch := omega) only [p3_f, p3_q, p3_o, u2_p3_f, u2_p3_q, u2_p3_o, uz_same, uz_ne, Int.reduceToNat]
      refine ⟨by (refine ⟨?_, ?_⟩ <;> omega), ?_⟩
      refine hK _ _ _ _ _ _ ?_
      have e4 : d = 4 := by omega
      rw [e4] at hi
      exact bInv_next hi hk
    · refine ⟨⟨Nat.zero_le _, Nat.zero_le _, Nat.le_of_ble_eq_true rfl⟩, trivial, ?_⟩
      refine D_neighbour hG hq' ⟨hd, by omega⟩ (fun r hr => ?_)
      have b1 := nb_cell hq.1 (d := d) ⟨hd, by omega⟩
      rw [← hr] at b1
      have hc2 : r = -1 ∨ (0 ≤ r ∧ r < 96) := b1
      have hst : stT z c0 d = if r ≠ -1 ∧ clm z c0 r then r else -1 := by rw [hr]; rfl
      have hro : f r.toNat = -1 → r ≠ -1 → e < 96 := fun a u => bInv_room hi (b1.resolve_left u) a
      refine af_I0 rfl rfl (by decide) ?_
      try dsimp only
      try simp (disch := omega) only [p3_f, p3_q, p3_o, u2_p3_f, u2_p3_q, u2_p3_o, uz_same, uz_ne, Int.reduceToNat]
      refine B_X4_spread_75 ?_
      try dsimp only
      try simp (disch := omega) only [p3_f, p3_q, p3_o, u2_p3_f, u2_p3_q, u2_p3_o, uz_same, uz_ne, Int.reduceToNat]
      refine ⟨fun c80_1 => ?_, fun c80_1 => ?_⟩
      · refine B_X4_spread_138 ?_
        try dsimp only
        try simp (disch := omega) only [p3_f, p3_q, p3_o, u2_p3_f, u2_p3_q, u2_p3_o, uz_same, uz_ne, Int.reduceToNat]
        refine ⟨by (refine ⟨?_, ?_⟩ <;> omega), ?_⟩
        first
          | exact ih (d + 1) _ _ _ _ (by omega) (by omega) (by rw [uz_ne _ _ (by omega)]; exact hq0) htk
          | (refine ih (d + 1) _ _ _ _ (by omega) hk hq0 (bInv_skip hi hk ?_ (by omega))
             rw [hq0]
             by_cases u : r ≠ -1 ∧ clm z c0 r
             · rw [hst, if_pos u]
               first
                 | exact Or.inr (Or.inl (fun w => by have := hro w u.1; omega))
                 | (have u1 := u.1
                    have u2 := u.2
                    unfold clm at u2 hr3
                    exfalso; omega)
                 | (refine Or.inr ?_
                    by_cases w : f r.toNat = -1
                    · exact Or.inr (fun y => by have y := of_decide_eq_true y; omega)
                    · exact Or.inl w)
                 | (exfalso; exact u.1 (by omega))
             · rw [hst, if_neg u]
               exact Or.inl rfl)
      · refine ⟨fun c87_1 => ?_, fun c87_1 => ?_⟩
        · refine B_X4_spread_138 ?_
          try dsimp only
          try simp (disch := omega) only [p3_f, p3_q, p3_o, u2_p3_f, u2_p3_q, u2_p3_o, uz_same, uz_ne, Int.reduceToNat]
          refine ⟨by (refine ⟨?_, ?_⟩ <;> omega), ?_⟩
          first
            | exact ih (d + 1) _ _ _ _ (by omega) (by omega) (by rw [uz_ne _ _ (by omega)]; exact hq0) htk
            | (refine ih (d + 1) _ _ _ _ (by omega) hk hq0 (bInv_skip hi hk ?_ (by omega))
               rw [hq0]
               by_cases u : r ≠ -1 ∧ clm z c0 r
               · rw [hst, if_pos u]
                 first
                   | exact Or.inr (Or.inl (fun w => by have := hro w u.1; omega))
                   | (have u1 := u.1
                      have u2 := u.2
                      unfold clm at u2 hr3
                      exfalso; omega)
                   | (refine Or.inr ?_
                      by_cases w : f r.toNat = -1
                      · exact Or.inr (fun y => by have y := of_decide_eq_true y; omega)
                      · exact Or.inl w)
                   | (exfalso; exact u.1 (by omega))
               · rw [hst, if_neg u]
                 exact Or.inl rfl)
        · refine ⟨⟨Nat.zero_le _, Nat.zero_le _, Nat.le_of_ble_eq_true rfl⟩, sp0 hP, ?_⟩
          refine D_isOpen hG hP hRP (I := p3 I p f q) (b1.resolve_left (by assumption)) (fun r2 hr2 => ?_)
          rw [p3_f, p3_o _ _ _ _ (by omega)] at hr2
          refine af_I0 rfl rfl (by decide) ?_
          try dsimp only
          try simp (disch := omega) only [p3_f, p3_q, p3_o, u2_p3_f, u2_p3_q, u2_p3_o, uz_same, uz_ne, Int.reduceToNat]
          refine B_X4_spread_96 ?_
          try dsimp only
          try simp (disch := omega) only [p3_f, p3_q, p3_o, u2_p3_f, u2_p3_q, u2_p3_o, uz_same, uz_ne, Int.reduceToNat]
          refine ⟨fun c96_2 => ?_, fun c96_2 => ?_⟩
          · refine B_X4_spread_138 ?_
            try dsimp only
            try simp (disch := omega) only [p3_f, p3_q, p3_o, u2_p3_f, u2_p3_q, u2_p3_o, uz_same, uz_ne, Int.reduceToNat]
            refine ⟨by (refine ⟨?_, ?_⟩ <;> omega), ?_⟩
            first
              | exact ih (d + 1) _ _ _ _ (by omega) (by omega) (by rw [uz_ne _ _ (by omega)]; exact hq0) htk
              | (refine ih (d + 1) _ _ _ _ (by omega) hk hq0 (bInv_skip hi hk ?_ (by omega))
                 rw [hq0]
                 by_cases u : r ≠ -1 ∧ clm z c0 r
                 · rw [hst, if_pos u]
                   first
                     | exact Or.inr (Or.inl (fun w => by have := hro w u.1; omega))
                     | (have u1 := u.1
                        have u2 := u.2
                        unfold clm at u2 hr3
                        exfalso; omega)
                     | (refine Or.inr ?_
                        by_cases w : f r.toNat = -1
                        · exact Or.inr (fun y => by have y := of_decide_eq_true y; omega)
                        · exact Or.inl w)
                     | (exfalso; exact u.1 (by omega))
                 · rw [hst, if_neg u]
                   exact Or.inl rfl)
          · refine ⟨⟨Nat.zero_le _, Nat.zero_le _, Nat.le_of_ble_eq_true rfl⟩, sw1 hB, ?_⟩
            refine D_canStep hG hB hRW (I := p3 I p f q) hv' hh hq.1 (b1.resolve_left (by assumption)) (fun r3 hr3 => ?_)
            refine af_I0 rfl rfl (by decide) ?_
            try dsimp only
            try simp (disch := omega) only [p3_f, p3_q, p3_o, u2_p3_f, u2_p3_q, u2_p3_o, uz_same, uz_ne, Int.reduceToNat]
            refine B_X4_spread_107 ?_
            try dsimp only
            try simp (disch := omega) only [p3_f, p3_q, p3_o, u2_p3_f, u2_p3_q, u2_p3_o, uz_same, uz_ne, Int.reduceToNat]
            refine ⟨fun c107_3 => ?_, fun c107_3 => ?_⟩
            · refine B_X4_spread_138 ?_
              try dsimp only
              try simp (disch := omega) only [p3_f, p3_q, p3_o, u2_p3_f, u2_p3_q, u2_p3_o, uz_same, uz_ne, Int.reduceToNat]
              refine ⟨by (refine ⟨?_, ?_⟩ <;> omega), ?_⟩
              first
                | exact ih (d + 1) _ _ _ _ (by omega) (by omega) (by rw [uz_ne _ _ (by omega)]; exact hq0) htk
                | (refine ih (d + 1) _ _ _ _ (by omega) hk hq0 (bInv_skip hi hk ?_ (by omega))
                   rw [hq0]
                   by_cases u : r ≠ -1 ∧ clm z c0 r
                   · rw [hst, if_pos u]
                     first
                       | exact Or.inr (Or.inl (fun w => by have := hro w u.1; omega))
                       | (have u1 := u.1
                          have u2 := u.2
                          unfold clm at u2 hr3
                          exfalso; omega)
                       | (refine Or.inr ?_
                          by_cases w : f r.toNat = -1
                          · exact Or.inr (fun y => by have y := of_decide_eq_true y; omega)
                          · exact Or.inl w)
                       | (exfalso; exact u.1 (by omega))
                   · rw [hst, if_neg u]
                     exact Or.inl rfl)
            · have hro2 := hro (by omega) (by omega)
              have hst1 : stT z c0 d = r := by rw [hst, if_pos ⟨by assumption, by omega⟩]
              have htk := bInv_take hi hk (d := d) (by omega) (by rw [hq0, hst1]; omega) (by rw [hq0, hst1]; omega) (by rw [hq0, hst1]; exact decide_eq_true (by omega)) hc
              rw [hq0, hst1] at htk
              refine ⟨sp0 hP, _, hRP.st, ?_⟩
              refine ⟨sp0 hP, _, hRP.st, ?_⟩
              refine ⟨_, sp1 hP, ⟨by omega, by omega⟩, ?_⟩
              try simp (disch := omega) only [p3_f, p3_q, p3_o, u2_p3_f, u2_p3_q, u2_p3_o, uz_same, uz_ne, Int.reduceToNat]
              refine ⟨by (refine ⟨?_, ?_⟩ <;> omega), ?_⟩
              refine ⟨_, sp1 hP, ⟨by omega, by omega⟩, ?_⟩
              try simp (disch := omega) only [p3_f, p3_q, p3_o, u2_p3_f, u2_p3_q, u2_p3_o, uz_same, uz_ne, Int.reduceToNat]
              refine ⟨sp0 hP, _, hRP.qu, ?_⟩
              refine ⟨_, sp2 hP, ⟨by omega, by omega⟩, ?_⟩
              try simp (disch := omega) only [p3_f, p3_q, p3_o, u2_p3_f, u2_p3_q, u2_p3_o, uz_same, uz_ne, Int.reduceToNat]
              refine ⟨by (refine ⟨?_, ?_⟩ <;> omega), ?_⟩
              refine B_X4_spread_138 ?_
              try dsimp only
              try simp (disch := omega) only [p3_f, p3_q, p3_o, u2_p3_f, u2_p3_q, u2_p3_o, uz_same, uz_ne, Int.reduceToNat]
              refine ⟨by (refine ⟨?_, ?_⟩ <;> omega), ?_⟩
              first
                | exact ih (d + 1) _ _ _ _ (by omega) (by omega) (by rw [uz_ne _ _ (by omega)]; exact hq0) htk
                | (refine ih (d + 1) _ _ _ _ (by omega) hk hq0 (bInv_skip hi hk ?_ (by omega))
                   rw [hq0]
                   by_cases u : r ≠ -1 ∧ clm z c0 r
                   · rw [hst, if_pos u]
                     first
                       | exact Or.inr (Or.inl (fun w => by have := hro w u.1; omega))
                       | (have u1 := u.1
                          have u2 := u.2
                          unfold clm at u2 hr3
                          exfalso; omega)
                       | (refine Or.inr ?_
                          by_cases w : f r.toNat = -1
                          · exact Or.inr (fun y => by have y := of_decide_eq_true y; omega)
                          · exact Or.inl w)
                       | (exfalso; exact u.1 (by omega))
                   · rw [hst, if_neg u]
                     exact Or.inl rfl)
theorem L_spK {G : amG} {I : Nat → Nat → Int} {R : Nat → Nat → Option Nat} {L : Nat → Nat → Int64} {x : Nat} {Q : amR → amH → Prop} (hG : amG0 G) {b : Nat} (hB : wb b) (hRW : RW R b) {p : Nat} (hP : wp p) (hRP : RP R p) {z : Row} (hv : HV I b z) (hh : wfH z) {v s : Int} (hc : isC v) (hs : s = -1 ∨ isC s) (hQ : ∀ f q : Row, esp z (opT (I (p + 3))) v s f → (s = -1 → dSp z (opT (I (p + 3))) v f) → Q (Sum.inl none) (p3 I p f q, R, L, (SH sT), x, 0, 0)) :
    ∀ (n : Nat) (k e : Int) (f q : Row) (l6 l7 l8 : Option amV), 96 - k < n ∧ k ≤ 96 → bInv z (opT (I (p + 3))) v k 0 f q e → X G mX4_spread Q 28 [some (aR (some p)), some (aR (some (b + 1))), some (aI v), some (aI s), some (aI e), some (aI k), l6, l7, l8] [] (p3 I p f q, R, L, (SH sT), x, 0, 0) := by
  intro n
  induction n with
  | zero =>
    intros
    exfalso; omega
  | succ n ih =>
    intro k e f q l6 l7 l8 h1 hi
    have hb1 := wb_le hB
    have hp1 := wp_le hP
    have hle := bInv_le hi
    have hs' : s = -1 ∨ (0 ≤ s ∧ s < 96) := hs
    refine B_X4_spread_28 ?_
    try dsimp only
    try simp (disch := omega) only [p3_f, p3_q, p3_o, u2_p3_f, u2_p3_q, u2_p3_o, uz_same, uz_ne, Int.reduceToNat]
    refine ⟨fun c32_0 => ?_, fun c32_0 => ?_⟩
    · refine B_X4_spread_150 ?_
      try dsimp only
      try simp (disch := omega) only [p3_f, p3_q, p3_o, u2_p3_f, u2_p3_q, u2_p3_o, uz_same, uz_ne, Int.reduceToNat]
      refine ⟨rfl, ?_⟩
      first
        | (have he : e ≤ k := by omega
           have hd := bInv_end hi hc he
           exact hQ f q (Or.inl hd) (fun _ => hd))
        | (have hsc := hs.resolve_left (by assumption)
           exact hQ f q (Or.inr ⟨hsc, by assumption, fun g hg t ht => bInv_early hi hc hg hsc (by assumption) ht⟩) (fun w => absurd w (by assumption)))
    · refine ⟨fun c37_0 => ?_, fun c37_0 => ?_⟩
      · refine B_X4_spread_50 ?_
        try dsimp only
        try simp (disch := omega) only [p3_f, p3_q, p3_o, u2_p3_f, u2_p3_q, u2_p3_o, uz_same, uz_ne, Int.reduceToNat]
        refine ⟨sp0 hP, _, hRP.qu, ?_⟩
        refine ⟨_, sp2 hP, ⟨by omega, by omega⟩, ?_⟩
        try simp (disch := omega) only [p3_f, p3_q, p3_o, u2_p3_f, u2_p3_q, u2_p3_o, uz_same, uz_ne, Int.reduceToNat]
        exact L_spW hG hB hRW hP hRP hv hh hc (fun f q e l6 l7 l8 hb => ih (k + 1) e f q l6 l7 l8 (by omega) hb) 5 0 e f q _ (by decide) (by omega) rfl hi
      · refine ⟨sp0 hP, _, hRP.st, ?_⟩
        refine ⟨_, sp1 hP, ⟨by omega, by omega⟩, ?_⟩
        try simp (disch := omega) only [p3_f, p3_q, p3_o, u2_p3_f, u2_p3_q, u2_p3_o, uz_same, uz_ne, Int.reduceToNat]
        refine ⟨fun c47_0 => ?_, fun c47_0 => ?_⟩
        · refine B_X4_spread_150 ?_
          try dsimp only
          try simp (disch := omega) only [p3_f, p3_q, p3_o, u2_p3_f, u2_p3_q, u2_p3_o, uz_same, uz_ne, Int.reduceToNat]
          refine ⟨rfl, ?_⟩
          first
            | (have he : e ≤ k := by omega
               have hd := bInv_end hi hc he
               exact hQ f q (Or.inl hd) (fun _ => hd))
            | (have hsc := hs.resolve_left (by assumption)
               exact hQ f q (Or.inr ⟨hsc, by assumption, fun g hg t ht => bInv_early hi hc hg hsc (by assumption) ht⟩) (fun w => absurd w (by assumption)))
        · refine B_X4_spread_50 ?_
          try dsimp only
          try simp (disch := omega) only [p3_f, p3_q, p3_o, u2_p3_f, u2_p3_q, u2_p3_o, uz_same, uz_ne, Int.reduceToNat]
          refine ⟨sp0 hP, _, hRP.qu, ?_⟩
          refine ⟨_, sp2 hP, ⟨by omega, by omega⟩, ?_⟩
          try simp (disch := omega) only [p3_f, p3_q, p3_o, u2_p3_f, u2_p3_q, u2_p3_o, uz_same, uz_ne, Int.reduceToNat]
          exact L_spW hG hB hRW hP hRP hv hh hc (fun f q e l6 l7 l8 hb => ih (k + 1) e f q l6 l7 l8 (by omega) hb) 5 0 e f q _ (by decide) (by omega) rfl hi
theorem D_spread {G : amG} {I : Nat → Nat → Int} {R : Nat → Nat → Option Nat} {L : Nat → Nat → Int64} {x c t : Nat} {Q : amR → amH → Prop} (hG : amG0 G) {b : Nat} (hB : wb b) (hRW : RW R b) {p : Nat} (hP : wp p) (hRP : RP R p) {z : Row} (hv : HV I b z) (hh : wfH z) {f q : Row} {v s : Int} (hc : isC v) (hs : s = -1 ∨ isC s) (hQ : ∀ f q : Row, esp z (opT (I (p + 3))) v s f → (s = -1 → dSp z (opT (I (p + 3))) v f) → Q (Sum.inl none) (p3 I p f q, R, L, (SH sT), x, 0, 0)) : CT G sX4_spread [aR (some p), aR (some (b + 1)), aI v, aI s] (p3 I p f q, R, L, (SH sT), x, c, t) Q := by
  refine CT_of ok_X4_spread hG (Nat.le_of_ble_eq_true rfl) ?_
  show X G mX4_spread Q 0 _ [] (p3 I p f q, R, L, (SH sT), x, 0, 0)
  have hb1 := wb_le hB
  have hp1 := wp_le hP
  have hc' : 0 ≤ v ∧ v < 96 := hc
  refine B_X4_spread_0 ?_
  try dsimp only
  try simp (disch := omega) only [p3_f, p3_q, p3_o, u2_p3_f, u2_p3_q, u2_p3_o, uz_same, uz_ne, Int.reduceToNat]
  refine ⟨sp0 hP, _, hRP.st, ?_⟩
  refine ⟨⟨Nat.zero_le _, Nat.zero_le _, Nat.le_of_ble_eq_true rfl⟩, trivial, ?_⟩
  have ef : pr (p3 I p f q) (p + 1) (flN (p3 I p f q (p + 1)) (-1) 96) = p3 I p (flN f (-1) 96) q := by
    rw [p3_f]
    funext a
    by_cases h : a = p + 1
    · rw [h, pr_at, p3_f]
    · rw [pr_off _ _ h]; unfold p3; rw [if_neg h, if_neg h]
  refine D_fill hG (sp1 hP) (by decide) ?_
  rw [ef]
  refine af_N0 rfl rfl rfl ?_
  try dsimp only
  try simp (disch := omega) only [p3_f, p3_q, p3_o, u2_p3_f, u2_p3_q, u2_p3_o, uz_same, uz_ne, Int.reduceToNat]
  refine B_X4_spread_8 ?_
  try dsimp only
  try simp (disch := omega) only [p3_f, p3_q, p3_o, u2_p3_f, u2_p3_q, u2_p3_o, uz_same, uz_ne, Int.reduceToNat]
  refine ⟨sp0 hP, _, hRP.st, ?_⟩
  refine ⟨_, sp1 hP, ⟨by omega, by omega⟩, ?_⟩
  try simp (disch := omega) only [p3_f, p3_q, p3_o, u2_p3_f, u2_p3_q, u2_p3_o, uz_same, uz_ne, Int.reduceToNat]
  refine ⟨sp0 hP, _, hRP.qu, ?_⟩
  refine ⟨_, sp2 hP, ⟨by omega, by omega⟩, ?_⟩
  try simp (disch := omega) only [p3_f, p3_q, p3_o, u2_p3_f, u2_p3_q, u2_p3_o, uz_same, uz_ne, Int.reduceToNat]
  refine L_spK hG hB hRW hP hRP hv hh hc hs hQ 97 0 1 _ _ _ _ _ (by decide) (bInv_start hc (fun j hj => ?_) (uz_same _ _ _))
  by_cases e : j = v.toNat
  · rw [e, uz_same, if_pos rfl]
  · rw [uz_ne _ _ e, if_neg e, flN_at, if_pos hj]
/-- the first neighbour, of the last n ways, that is free and nearer -/
def nxC (z f tk : Row) (c : Int) : Nat → Int
  | 0 => -1
  | n + 1 => if stT z c (3 - n) ≠ -1 ∧ 0 < f c.toNat ∧ f (stT z c (3 - n)).toNat = f c.toNat - 1 ∧ tk (stT z c (3 - n)).toNat = 0 then stT z c (3 - n) else nxC z f tk c n
theorem nxC_s (z f tk : Row) (c : Int) (n : Nat) : nxC z f tk c (n + 1) = if stT z c (3 - n) ≠ -1 ∧ 0 < f c.toNat ∧ f (stT z c (3 - n)).toNat = f c.toNat - 1 ∧ tk (stT z c (3 - n)).toNat = 0 then stT z c (3 - n) else nxC z f tk c n := rfl
theorem nxC_0 {z f tk : Row} {c : Int} (h : ¬ 0 < f c.toNat) : ∀ n : Nat, nxC z f tk c n = -1 := by
  intro n
  induction n with
  | zero => rfl
  | succ n ih => rw [nxC_s, if_neg (fun w => h w.2.1), ih]
theorem L_free {G : amG} {I : Nat → Nat → Int} {R : Nat → Nat → Option Nat} {L : Nat → Nat → Int64} {x : Nat} {Q : amR → amH → Prop} (hG : amG0 G) {b : Nat} (hB : wb b) (hRW : RW R b) {p : Nat} (hP : wp p) (hRP : RP R p) {z : Row} (hv : HV I b z) (hh : wfH z) {f q : Row} {v : Int} (hc : isC v) (hfb : ∀ t : Int, isC t → -1 ≤ f t.toNat ∧ f t.toNat < 96) (hQ : Q (Sum.inl (some (aI (nxC z f (I (p + 3)) v 4)))) (p3 I p f q, R, L, (SH sT), x, 0, 0)) :
    ∀ (n : Nat) (d : Int) (l4 : Option amV), (0 ≤ d ∧ d ≤ 4 ∧ 4 - d < n) → nxC z f (I (p + 3)) v 4 = nxC z f (I (p + 3)) v (4 - d).toNat → X G mX4_freeStepNearer Q 2 [some (aR (some p)), some (aR (some (b + 1))), some (aI v), some (aI d), l4] [] (p3 I p f q, R, L, (SH sT), x, 0, 0) := by
  intro n
  induction n with
  | zero =>
    intros
    exfalso; omega
  | succ n ih =>
    intro d l4 h1 he
    have hb1 := wb_le hB
    have hp1 := wp_le hP
    have hv' := HV_p3 hv hB hP f q
    have hc' : 0 ≤ v ∧ v < 96 := hc
    have hfv := hfb v hc
    have hs : d < 4 → nxC z f (I (p + 3)) v (4 - d).toNat = if stT z v d ≠ -1 ∧ 0 < f v.toNat ∧ f (stT z v d).toNat = f v.toNat - 1 ∧ I (p + 3) (stT z v d).toNat = 0 then stT z v d else nxC z f (I (p + 3)) v (4 - (d + 1)).toNat := fun u => by
      rw [show (4 - d).toNat = (4 - (d + 1)).toNat + 1 by omega, nxC_s, show (3 : Int) - ((4 - (d + 1)).toNat : Nat) = d by omega]
    refine B_X4_freeStepNearer_2 ?_
    try dsimp only
    try simp (disch := omega) only [p3_f, p3_q, p3_o, u2_p3_f, u2_p3_q, u2_p3_o, uz_same, uz_ne, Int.reduceToNat]
    refine ⟨fun c4_0 => ?_, fun c4_0 => ?_⟩
    · refine B_X4_freeStepNearer_76 ?_
      try dsimp only
      try simp (disch := omega) only [p3_f, p3_q, p3_o, u2_p3_f, u2_p3_q, u2_p3_o, uz_same, uz_ne, Int.reduceToNat]
      first
        | (have h4 : d = 4 := by omega
           rw [he, h4] at hQ
           exact hQ)
        | (have h4 : ¬ 0 < f v.toNat := by omega
           rw [nxC_0 h4] at hQ
           exact hQ)
        | (have hst1 : stT z v d = r := by rw [hst, if_pos ⟨by assumption, by omega⟩]
           rw [he, hs, hst1, if_pos (by refine ⟨by omega, by omega, by omega, by omega⟩)] at hQ
           exact hQ)
    · refine ⟨sp0 hP, _, hRP.st, ?_⟩
      refine ⟨_, sp1 hP, ⟨by omega, by omega⟩, ?_⟩
      try simp (disch := omega) only [p3_f, p3_q, p3_o, u2_p3_f, u2_p3_q, u2_p3_o, uz_same, uz_ne, Int.reduceToNat]
      refine ⟨fun c13_0 => ?_, fun c13_0 => ?_⟩
      · refine B_X4_freeStepNearer_76 ?_
        try dsimp only
        try simp (disch := omega) only [p3_f, p3_q, p3_o, u2_p3_f, u2_p3_q, u2_p3_o, uz_same, uz_ne, Int.reduceToNat]
        first
          | (have h4 : d = 4 := by omega
             rw [he, h4] at hQ
             exact hQ)
          | (have h4 : ¬ 0 < f v.toNat := by omega
             rw [nxC_0 h4] at hQ
             exact hQ)
          | (have hst1 : stT z v d = r := by rw [hst, if_pos ⟨by assumption, by omega⟩]
             rw [he, hs, hst1, if_pos (by refine ⟨by omega, by omega, by omega, by omega⟩)] at hQ
             exact hQ)
      · refine ⟨⟨Nat.zero_le _, Nat.zero_le _, Nat.le_of_ble_eq_true rfl⟩, trivial, ?_⟩
        refine D_neighbour hG hc' ⟨h1.1, by omega⟩ (fun r hr => ?_)
        have b1 := nb_cell hc (d := d) ⟨h1.1, by omega⟩
        rw [← hr] at b1
        have hc2 : r = -1 ∨ (0 ≤ r ∧ r < 96) := b1
        have hst : stT z v d = if r ≠ -1 ∧ clm z v r then r else -1 := by rw [hr]; rfl
        have hs := hs (by omega)
        refine af_I0 rfl rfl (by decide) ?_
        try dsimp only
        try simp (disch := omega) only [p3_f, p3_q, p3_o, u2_p3_f, u2_p3_q, u2_p3_o, uz_same, uz_ne, Int.reduceToNat]
        refine B_X4_freeStepNearer_21 ?_
        try dsimp only
        try simp (disch := omega) only [p3_f, p3_q, p3_o, u2_p3_f, u2_p3_q, u2_p3_o, uz_same, uz_ne, Int.reduceToNat]
        refine ⟨fun c26_1 => ?_, fun c26_1 => ?_⟩
        · refine B_X4_freeStepNearer_70 ?_
          try dsimp only
          try simp (disch := omega) only [p3_f, p3_q, p3_o, u2_p3_f, u2_p3_q, u2_p3_o, uz_same, uz_ne, Int.reduceToNat]
          refine ⟨by (refine ⟨?_, ?_⟩ <;> omega), ?_⟩
          refine ih (d + 1) _ (by omega) ?_
          rw [he, hs]
          refine if_neg (fun w => ?_)
          have w1 := w.1
          have hst2 := hst
          split at hst2
          · rename_i y
            have y1 := y.1
            have y2 := y.2
            rw [hst2] at w
            have w2 := w.2
            unfold clm at y2
            first
              | omega
              | (unfold clm at hr3; omega)
          · omega
        · refine ⟨sp0 hP, _, hRP.st, ?_⟩
          refine ⟨_, sp1 hP, ⟨by omega, by omega⟩, ?_⟩
          try simp (disch := omega) only [p3_f, p3_q, p3_o, u2_p3_f, u2_p3_q, u2_p3_o, uz_same, uz_ne, Int.reduceToNat]
          refine ⟨sp0 hP, _, hRP.st, ?_⟩
          refine ⟨_, sp1 hP, ⟨by omega, by omega⟩, ?_⟩
          try simp (disch := omega) only [p3_f, p3_q, p3_o, u2_p3_f, u2_p3_q, u2_p3_o, uz_same, uz_ne, Int.reduceToNat]
          refine ⟨by (refine ⟨?_, ?_⟩ <;> omega), ?_⟩
          refine ⟨fun c44_1 => ?_, fun c44_1 => ?_⟩
          · refine B_X4_freeStepNearer_70 ?_
            try dsimp only
            try simp (disch := omega) only [p3_f, p3_q, p3_o, u2_p3_f, u2_p3_q, u2_p3_o, uz_same, uz_ne, Int.reduceToNat]
            refine ⟨by (refine ⟨?_, ?_⟩ <;> omega), ?_⟩
            refine ih (d + 1) _ (by omega) ?_
            rw [he, hs]
            refine if_neg (fun w => ?_)
            have w1 := w.1
            have hst2 := hst
            split at hst2
            · rename_i y
              have y1 := y.1
              have y2 := y.2
              rw [hst2] at w
              have w2 := w.2
              unfold clm at y2
              first
                | omega
                | (unfold clm at hr3; omega)
            · omega
          · refine ⟨sp0 hP, _, hRP.ta, ?_⟩
            refine ⟨_, sp3 hP, ⟨by omega, by omega⟩, ?_⟩
            try simp (disch := omega) only [p3_f, p3_q, p3_o, u2_p3_f, u2_p3_q, u2_p3_o, uz_same, uz_ne, Int.reduceToNat]
            refine ⟨fun c54_1 => ?_, fun c54_1 => ?_⟩
            · refine B_X4_freeStepNearer_70 ?_
              try dsimp only
              try simp (disch := omega) only [p3_f, p3_q, p3_o, u2_p3_f, u2_p3_q, u2_p3_o, uz_same, uz_ne, Int.reduceToNat]
              refine ⟨by (refine ⟨?_, ?_⟩ <;> omega), ?_⟩
              refine ih (d + 1) _ (by omega) ?_
              rw [he, hs]
              refine if_neg (fun w => ?_)
              have w1 := w.1
              have hst2 := hst
              split at hst2
              · rename_i y
                have y1 := y.1
                have y2 := y.2
                rw [hst2] at w
                have w2 := w.2
                unfold clm at y2
                first
                  | omega
                  | (unfold clm at hr3; omega)
              · omega
            · refine ⟨⟨Nat.zero_le _, Nat.zero_le _, Nat.le_of_ble_eq_true rfl⟩, sw1 hB, ?_⟩
              refine D_canStep hG hB hRW (I := p3 I p f q) hv' hh hc (b1.resolve_left (by assumption)) (fun r3 hr3 => ?_)
              refine af_I0 rfl rfl (by decide) ?_
              try dsimp only
              try simp (disch := omega) only [p3_f, p3_q, p3_o, u2_p3_f, u2_p3_q, u2_p3_o, uz_same, uz_ne, Int.reduceToNat]
              refine B_X4_freeStepNearer_64 ?_
              try dsimp only
              try simp (disch := omega) only [p3_f, p3_q, p3_o, u2_p3_f, u2_p3_q, u2_p3_o, uz_same, uz_ne, Int.reduceToNat]
              refine ⟨fun c64_2 => ?_, fun c64_2 => ?_⟩
              · refine B_X4_freeStepNearer_70 ?_
                try dsimp only
                try simp (disch := omega) only [p3_f, p3_q, p3_o, u2_p3_f, u2_p3_q, u2_p3_o, uz_same, uz_ne, Int.reduceToNat]
                refine ⟨by (refine ⟨?_, ?_⟩ <;> omega), ?_⟩
                refine ih (d + 1) _ (by omega) ?_
                rw [he, hs]
                refine if_neg (fun w => ?_)
                have w1 := w.1
                have hst2 := hst
                split at hst2
                · rename_i y
                  have y1 := y.1
                  have y2 := y.2
                  rw [hst2] at w
                  have w2 := w.2
                  unfold clm at y2
                  first
                    | omega
                    | (unfold clm at hr3; omega)
                · omega
              · first
                  | (have h4 : d = 4 := by omega
                     rw [he, h4] at hQ
                     exact hQ)
                  | (have h4 : ¬ 0 < f v.toNat := by omega
                     rw [nxC_0 h4] at hQ
                     exact hQ)
                  | (have hst1 : stT z v d = r := by rw [hst, if_pos ⟨by assumption, by omega⟩]
                     rw [he, hs, hst1, if_pos (by refine ⟨by omega, by omega, by omega, by omega⟩)] at hQ
                     exact hQ)
theorem D_freeStepNearer {G : amG} {I : Nat → Nat → Int} {R : Nat → Nat → Option Nat} {L : Nat → Nat → Int64} {x c t : Nat} {Q : amR → amH → Prop} (hG : amG0 G) {b : Nat} (hB : wb b) (hRW : RW R b) {p : Nat} (hP : wp p) (hRP : RP R p) {z : Row} (hv : HV I b z) (hh : wfH z) {f q : Row} {v : Int} (hc : isC v) (hfb : ∀ t : Int, isC t → -1 ≤ f t.toNat ∧ f t.toNat < 96) (hQ : Q (Sum.inl (some (aI (nxC z f (I (p + 3)) v 4)))) (p3 I p f q, R, L, (SH sT), x, 0, 0)) : CT G sX4_freeStepNearer [aR (some p), aR (some (b + 1)), aI v] (p3 I p f q, R, L, (SH sT), x, c, t) Q := by
  refine CT_of ok_X4_freeStepNearer hG (Nat.le_of_ble_eq_true rfl) ?_
  show X G mX4_freeStepNearer Q 0 _ [] (p3 I p f q, R, L, (SH sT), x, 0, 0)
  refine B_X4_freeStepNearer_0 ?_
  try dsimp only
  try simp (disch := omega) only [p3_f, p3_q, p3_o, u2_p3_f, u2_p3_q, u2_p3_o, uz_same, uz_ne, Int.reduceToNat]
  exact L_free hG hB hRW hP hRP hv hh hc hfb hQ 5 0 none (by decide) rfl
