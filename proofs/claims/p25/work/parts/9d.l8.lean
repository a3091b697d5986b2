/-! ===== told: the orders, by the turn and the number ===== -/
theorem sumN_le {f h : Nat → Int} : ∀ n : Nat, (∀ k : Nat, k < n → f k ≤ h k) → sumN f n ≤ sumN h n := by
  intro n
  induction n with
  | zero => intro _; exact Int.le_refl _
  | succ n ih =>
    intro q
    rw [sumN_s, sumN_s]
    have := ih (fun k hk => q k (by omega))
    have := q n (by omega)
    omega
theorem sumN_lt {f h : Nat → Int} {a : Nat} : ∀ n : Nat, a < n → (∀ k : Nat, k < n → f k ≤ h k) → f a < h a → sumN f n < sumN h n := by
  intro n
  induction n with
  | zero => intro q; exact absurd q (Nat.not_lt_zero _)
  | succ n ih =>
    intro ha q l
    rw [sumN_s, sumN_s]
    by_cases e : a = n
    · have := sumN_le n (fun k hk => q k (by omega))
      rw [e] at l
      omega
    · have := ih (by omega) (fun k hk => q k (by omega)) l
      have := q n (by omega)
      omega
/-- order a comes before order b -/
def bef (z : Row) (a b : Nat) : Prop := z (196 + 4 * a + 3) < z (196 + 4 * b + 3) ∨ (z (196 + 4 * a + 3) = z (196 + 4 * b + 3) ∧ a < b)
theorem rk_lt {z : Row} {a b n : Nat} (h : bef z a b) (ha : a < n) : rkN z a n < rkN z b n := by
  unfold bef at h
  refine sumN_lt n ha (fun k _ => ?_) ?_
  · by_cases q : z (196 + 4 * k + 3) < z (196 + 4 * a + 3) ∨ (z (196 + 4 * k + 3) = z (196 + 4 * a + 3) ∧ k < a)
    · rw [if_pos q, if_pos (by omega)]; exact Int.le_refl _
    · rw [if_neg q]; split <;> omega
  · rw [if_neg (by omega), if_pos h]; decide
theorem bef_or {z : Row} {a b : Nat} (h : a ≠ b) : bef z a b ∨ bef z b a := by
  unfold bef
  omega
theorem rk_inj {z : Row} {a b n : Nat} (ha : a < n) (hb : b < n) (h : rkN z a n = rkN z b n) : a = b := by
  by_cases e : a = b
  · exact e
  · rcases bef_or (z := z) e with q | q
    · have := rk_lt q ha; omega
    · have := rk_lt q hb; omega
/-- what has been told: the p first ones -/
def dnP (z : Row) (D : Nat) (p : Int) : Prop := D < 4096 ∧ ∀ i : Nat, (i : Int) < z 195 → (D.testBit i = true ↔ rkN z i (z 195).toNat < p)
/-- the first one of those before m that haven't been told -/
def nxP (z : Row) (D : Nat) (m x : Int) : Prop := (x = -1 ∧ ∀ i : Nat, (i : Int) < m → D.testBit i = true) ∨ (0 ≤ x ∧ x < m ∧ D.testBit x.toNat = false ∧ ∀ i : Nat, (i : Int) < m → D.testBit i = false → i = x.toNat ∨ bef z x.toNat i)
theorem nx_rk {z : Row} {D : Nat} {p x : Int} (h0 : 0 ≤ z 195) (hd : dnP z D p) (hx : nxP z D (z 195) x) (hp : 0 ≤ p ∧ p < z 195) : (0 ≤ x ∧ x < z 195) ∧ rkN z x.toNat (z 195).toNat = p := by
  obtain ⟨o, o1, o2⟩ := rk_onto z (z 195).toNat p.toNat (by omega)
  have ho : D.testBit o = false := by
    cases hb : D.testBit o with
    | false => rfl
    | true => have := (hd.2 o (by omega)).mp hb; omega
  rcases hx with ⟨_, q⟩ | ⟨q1, q2, q3, q4⟩
  · have := q o (by omega)
    rw [ho] at this
    cases this
  · refine ⟨⟨q1, q2⟩, ?_⟩
    have hge : ¬ rkN z x.toNat (z 195).toNat < p := fun c => by
      have := (hd.2 x.toNat (by omega)).mpr c
      rw [q3] at this
      cases this
    rcases q4 o (by omega) ho with e | e
    · rw [← e]; omega
    · have := rk_lt e (n := (z 195).toNat) (by omega)
      omega
theorem dn_next {z : Row} {D : Nat} {p x : Int} (hd : dnP z D p) (hm : z 195 ≤ 12) (hx : 0 ≤ x ∧ x < z 195) (hr : rkN z x.toNat (z 195).toNat = p) : dnP z (D ||| 2 ^ x.toNat) (p + 1) := by
  refine ⟨(or_b hd.1 (by omega)).2, fun i hi => ?_⟩
  rw [Nat.testBit_or, Nat.testBit_two_pow]
  have h1 := hd.2 i hi
  constructor
  · intro q
    rcases (Bool.or_eq_true _ _).mp q with q | q
    · have := h1.mp q; omega
    · have e : x.toNat = i := of_decide_eq_true q
      rw [← e, hr]; omega
  · intro q
    by_cases c : rkN z i (z 195).toNat < p
    · rw [h1.mpr c]; rfl
    · have e : x.toNat = i := rk_inj (z := z) (n := (z 195).toNat) (by omega) (by omega) (by omega)
      rw [decide_eq_true e, Bool.or_true]
theorem KD_sel {G : amG} {Q : amR → amH → Prop} (hG : amG0 G) {sT : List (Nat × Nat)} (hS : LH (SH sT) 362 363 364) {I0 : Nat → Nat → Int} {z : Row} {nv : Int} {zs : Nat → Row} {N : Nat} (hN : N = 361 + sT.length) {x y f p : Int} {D : Nat} {J : Nat → Nat → Int} {R : Nat → Nat → Option Nat} {L : Nat → Nat → Int64} {U : List (Nat × Nat)} {c t : Nat} (hV : LV N I0 J R z nv zs) (hD : D < 4096) (hK : ∀ (e m : Int), nxP z D (z 195) e → X G mL_told Q 280 [some (aR (some 0)), some (aI x), some (aI y), some (aR (some 361)), some (aR (some 362)), some (aR (some 363)), some (aR (some 364)), some (aI f), some (aI ((D : Nat) : Int)), some (aI p), some (aI e), some (aI m), none, none] [] (J, R, L, SH (sT ++ U), 0, c, t)) :
    ∀ (n : Nat) (e m : Int), 0 ≤ m → (z 195 - m < n ∧ m ≤ z 195) → nxP z D m e → X G mL_told Q 225 [some (aR (some 0)), some (aI x), some (aI y), some (aR (some 361)), some (aR (some 362)), some (aR (some 363)), some (aR (some 364)), some (aI f), some (aI ((D : Nat) : Int)), some (aI p), some (aI e), some (aI m), none, none] [] (J, R, L, SH (sT ++ U), 0, c, t) := by
  intro n
  induction n with
  | zero =>
    intros
    exfalso; omega
  | succ n ih =>
    intro e m h0 hm he
    have hZm := hV.l.m
    have hbe : -1 ≤ e ∧ (e = -1 ∨ (0 ≤ e ∧ e < m)) := by
      rcases he with q | q <;> omega
    refine B_L_told_225 ?_
    try dsimp only
    try simp (disch := omega) only [hV.l.d.1.2.2.1, hV.l.o.e0, hV.l.o.e1, hV.l.o.e2, hV.l.o.e3]
    refine ⟨_, by first | exact (LH_app hS).2.1 | exact (LH_app hS).2.2.1 | exact (LH_app hS).2.2.2 | exact (LH_app hS).1, ⟨by omega, by omega⟩, ?_⟩
    try simp (disch := omega) only [hV.l.d.1.2.2.1, hV.l.o.e0, hV.l.o.e1, hV.l.o.e2, hV.l.o.e3]
    refine ⟨fun c231_0 => ?_, fun c231_0 => ?_⟩
    · have em : m = z 195 := by omega
      rw [em] at he
      exact hK e m he
    · have htb := tb_b (D := D) (i := m.toNat) hD (by omega)
      rw [Int.toNat_of_nonneg h0] at htb
      rw [htb]
      refine ⟨fun c241_0 => ?_, fun c241_0 => ?_⟩
      · refine B_L_told_274 ?_
        try dsimp only
        refine ⟨by (refine ⟨?_, ?_⟩ <;> omega), ?_⟩
        refine ih _ (m + 1) (by omega) (by omega) ?_
        first
          | (have hb : D.testBit m.toNat = true := by
               cases hb : D.testBit m.toNat with
               | true => rfl
               | false => rw [hb] at c241_0; exact absurd rfl c241_0
             rcases he with ⟨q1, q2⟩ | ⟨q1, q2, q3, q4⟩
             · refine Or.inl ⟨q1, fun i hi => ?_⟩
               by_cases c : i = m.toNat
               · rw [c]; exact hb
               · exact q2 i (by omega)
             · refine Or.inr ⟨q1, by omega, q3, fun i hi hf => ?_⟩
               by_cases c : i = m.toNat
               · rw [c, hb] at hf; cases hf
               · exact q4 i (by omega) hf)
          | (rcases he with ⟨q1, q2⟩ | ⟨q1, q2, q3, q4⟩
             · exfalso; omega
             · refine Or.inr ⟨q1, by omega, q3, fun i hi hf => ?_⟩
               by_cases c : i = m.toNat
               · refine Or.inr ?_
                 unfold bef
                 rw [c]
                 omega
               · exact q4 i (by omega) hf)
          | (have hb : D.testBit m.toNat = false := by
               cases hb : D.testBit m.toNat with
               | false => rfl
               | true => rw [hb] at c241_0; exact absurd (by decide) c241_0
             refine Or.inr ⟨h0, by omega, hb, fun i hi hf => ?_⟩
             by_cases c : i = m.toNat
             · exact Or.inl c
             · refine Or.inr ?_
               rcases he with ⟨q1, q2⟩ | ⟨q1, q2, q3, q4⟩
               · have := q2 i (by omega)
                 rw [hf] at this
                 cases this
               · rcases q4 i (by omega) hf with w | w
                 · rw [w]; unfold bef; omega
                 · unfold bef at w ⊢; omega)
      · refine ⟨fun c246_0 => ?_, fun c246_0 => ?_⟩
        · refine B_L_told_270 ?_
          try dsimp only
          try simp (disch := omega) only [hV.l.d.1.2.2.1, hV.l.o.e0, hV.l.o.e1, hV.l.o.e2, hV.l.o.e3]
          refine B_L_told_274 ?_
          try dsimp only
          refine ⟨by (refine ⟨?_, ?_⟩ <;> omega), ?_⟩
          refine ih _ (m + 1) (by omega) (by omega) ?_
          first
            | (have hb : D.testBit m.toNat = true := by
                 cases hb : D.testBit m.toNat with
                 | true => rfl
                 | false => rw [hb] at c241_0; exact absurd rfl c241_0
               rcases he with ⟨q1, q2⟩ | ⟨q1, q2, q3, q4⟩
               · refine Or.inl ⟨q1, fun i hi => ?_⟩
                 by_cases c : i = m.toNat
                 · rw [c]; exact hb
                 · exact q2 i (by omega)
               · refine Or.inr ⟨q1, by omega, q3, fun i hi hf => ?_⟩
                 by_cases c : i = m.toNat
                 · rw [c, hb] at hf; cases hf
                 · exact q4 i (by omega) hf)
            | (rcases he with ⟨q1, q2⟩ | ⟨q1, q2, q3, q4⟩
               · exfalso; omega
               · refine Or.inr ⟨q1, by omega, q3, fun i hi hf => ?_⟩
                 by_cases c : i = m.toNat
                 · refine Or.inr ?_
                   unfold bef
                   rw [c]
                   omega
                 · exact q4 i (by omega) hf)
            | (have hb : D.testBit m.toNat = false := by
                 cases hb : D.testBit m.toNat with
                 | false => rfl
                 | true => rw [hb] at c241_0; exact absurd (by decide) c241_0
               refine Or.inr ⟨h0, by omega, hb, fun i hi hf => ?_⟩
               by_cases c : i = m.toNat
               · exact Or.inl c
               · refine Or.inr ?_
                 rcases he with ⟨q1, q2⟩ | ⟨q1, q2, q3, q4⟩
                 · have := q2 i (by omega)
                   rw [hf] at this
                   cases this
                 · rcases q4 i (by omega) hf with w | w
                   · rw [w]; unfold bef; omega
                   · unfold bef at w ⊢; omega)
        · refine ⟨by (refine ⟨?_, ?_⟩ <;> omega), ?_⟩
          refine ⟨by (refine ⟨?_, ?_⟩ <;> omega), ?_⟩
          refine ⟨_, by first | exact (LH_app hS).2.1 | exact (LH_app hS).2.2.1 | exact (LH_app hS).2.2.2 | exact (LH_app hS).1, ⟨by omega, by omega⟩, ?_⟩
          try simp (disch := omega) only [hV.l.d.1.2.2.1, hV.l.o.e0, hV.l.o.e1, hV.l.o.e2, hV.l.o.e3]
          refine ⟨by (refine ⟨?_, ?_⟩ <;> omega), ?_⟩
          refine ⟨by (refine ⟨?_, ?_⟩ <;> omega), ?_⟩
          refine ⟨_, by first | exact (LH_app hS).2.1 | exact (LH_app hS).2.2.1 | exact (LH_app hS).2.2.2 | exact (LH_app hS).1, ⟨by omega, by omega⟩, ?_⟩
          try simp (disch := omega) only [hV.l.d.1.2.2.1, hV.l.o.e0, hV.l.o.e1, hV.l.o.e2, hV.l.o.e3]
          refine ⟨fun c267_0 => ?_, fun c267_0 => ?_⟩
          · refine B_L_told_274 ?_
            try dsimp only
            refine ⟨by (refine ⟨?_, ?_⟩ <;> omega), ?_⟩
            refine ih _ (m + 1) (by omega) (by omega) ?_
            first
              | (have hb : D.testBit m.toNat = true := by
                   cases hb : D.testBit m.toNat with
                   | true => rfl
                   | false => rw [hb] at c241_0; exact absurd rfl c241_0
                 rcases he with ⟨q1, q2⟩ | ⟨q1, q2, q3, q4⟩
                 · refine Or.inl ⟨q1, fun i hi => ?_⟩
                   by_cases c : i = m.toNat
                   · rw [c]; exact hb
                   · exact q2 i (by omega)
                 · refine Or.inr ⟨q1, by omega, q3, fun i hi hf => ?_⟩
                   by_cases c : i = m.toNat
                   · rw [c, hb] at hf; cases hf
                   · exact q4 i (by omega) hf)
              | (rcases he with ⟨q1, q2⟩ | ⟨q1, q2, q3, q4⟩
                 · exfalso; omega
                 · refine Or.inr ⟨q1, by omega, q3, fun i hi hf => ?_⟩
                   by_cases c : i = m.toNat
                   · refine Or.inr ?_
                     unfold bef
                     rw [c]
                     omega
                   · exact q4 i (by omega) hf)
              | (have hb : D.testBit m.toNat = false := by
                   cases hb : D.testBit m.toNat with
                   | false => rfl
                   | true => rw [hb] at c241_0; exact absurd (by decide) c241_0
                 refine Or.inr ⟨h0, by omega, hb, fun i hi hf => ?_⟩
                 by_cases c : i = m.toNat
                 · exact Or.inl c
                 · refine Or.inr ?_
                   rcases he with ⟨q1, q2⟩ | ⟨q1, q2, q3, q4⟩
                   · have := q2 i (by omega)
                     rw [hf] at this
                     cases this
                   · rcases q4 i (by omega) hf with w | w
                     · rw [w]; unfold bef; omega
                     · unfold bef at w ⊢; omega)
          · refine B_L_told_270 ?_
            try dsimp only
            try simp (disch := omega) only [hV.l.d.1.2.2.1, hV.l.o.e0, hV.l.o.e1, hV.l.o.e2, hV.l.o.e3]
            refine B_L_told_274 ?_
            try dsimp only
            refine ⟨by (refine ⟨?_, ?_⟩ <;> omega), ?_⟩
            refine ih _ (m + 1) (by omega) (by omega) ?_
            first
              | (have hb : D.testBit m.toNat = true := by
                   cases hb : D.testBit m.toNat with
                   | true => rfl
                   | false => rw [hb] at c241_0; exact absurd rfl c241_0
                 rcases he with ⟨q1, q2⟩ | ⟨q1, q2, q3, q4⟩
                 · refine Or.inl ⟨q1, fun i hi => ?_⟩
                   by_cases c : i = m.toNat
                   · rw [c]; exact hb
                   · exact q2 i (by omega)
                 · refine Or.inr ⟨q1, by omega, q3, fun i hi hf => ?_⟩
                   by_cases c : i = m.toNat
                   · rw [c, hb] at hf; cases hf
                   · exact q4 i (by omega) hf)
              | (rcases he with ⟨q1, q2⟩ | ⟨q1, q2, q3, q4⟩
                 · exfalso; omega
                 · refine Or.inr ⟨q1, by omega, q3, fun i hi hf => ?_⟩
                   by_cases c : i = m.toNat
                   · refine Or.inr ?_
                     unfold bef
                     rw [c]
                     omega
                   · exact q4 i (by omega) hf)
              | (have hb : D.testBit m.toNat = false := by
                   cases hb : D.testBit m.toNat with
                   | false => rfl
                   | true => rw [hb] at c241_0; exact absurd (by decide) c241_0
                 refine Or.inr ⟨h0, by omega, hb, fun i hi hf => ?_⟩
                 by_cases c : i = m.toNat
                 · exact Or.inl c
                 · refine Or.inr ?_
                   rcases he with ⟨q1, q2⟩ | ⟨q1, q2, q3, q4⟩
                   · have := q2 i (by omega)
                     rw [hf] at this
                     cases this
                   · rcases q4 i (by omega) hf with w | w
                     · rw [w]; unfold bef; omega
                     · unfold bef at w ⊢; omega)
theorem KD_ofig {G : amG} {Q : amR → amH → Prop} (hG : amG0 G) {sT : List (Nat × Nat)} (hS : LH (SH sT) 362 363 364) {I0 : Nat → Nat → Int} {z : Row} {nv : Int} {zs : Nat → Row} {N : Nat} (hN : N = 361 + sT.length) {x y f p e : Int} {D : Nat} {L : Nat → Nat → Int64} {U : List (Nat × Nat)} (hp : 0 ≤ p ∧ p < z 195) (he : 0 ≤ e ∧ e < z 195) (hr : rkN z e.toNat (z 195).toNat = p) {c0 t0 : Nat} (hK : ∀ (J : Nat → Nat → Int) (R : Nat → Nat → Option Nat) (c t : Nat) (i : Int), LV N I0 J R z nv zs → c0 ≤ c → t0 ≤ t → X G mL_told Q 348 [some (aR (some 0)), some (aI x), some (aI y), some (aR (some 361)), some (aR (some 362)), some (aR (some 363)), some (aR (some 364)), some (aI f), some (aI ((D : Nat) : Int)), some (aI p), some (aI e), some (aI i), none, none] [] (J, R, L, SH (sT ++ U), 0, c, t)) :
    ∀ (n : Nat) (J : Nat → Nat → Int) (R : Nat → Nat → Option Nat) (c t : Nat) (i : Int), 0 ≤ i → (4 - i < n ∧ i ≤ 4) → LV N I0 J R z nv zs → c0 + 2 * (4 - i.toNat) ≤ c → t0 + 12 * (4 - i.toNat) ≤ t → X G mL_told Q 292 [some (aR (some 0)), some (aI x), some (aI y), some (aR (some 361)), some (aR (some 362)), some (aR (some 363)), some (aR (some 364)), some (aI f), some (aI ((D : Nat) : Int)), some (aI p), some (aI e), some (aI i), none, none] [] (J, R, L, SH (sT ++ U), 0, c, t) := by
  intro n
  induction n with
  | zero =>
    intros
    exfalso; omega
  | succ n ih =>
    intro J R c t i h0 hi hV hc ht
    have hZm := hV.l.m
    refine B_L_told_292 ?_
    try dsimp only
    try simp (disch := omega) only [hV.l.d.1.2.2.1, hV.l.o.e0, hV.l.o.e1, hV.l.o.e2, hV.l.o.e3]
    refine ⟨fun c295_0 => ?_, fun c295_0 => ?_⟩
    · exact hK J R c t i hV (by omega) (by omega)
    · refine ⟨⟨by omega, by omega, Nat.le_of_ble_eq_true rfl⟩, so0, ?_⟩
      refine D_underWay hG hV.k hV.c hV.f (fun q => absurd hp q) (fun q => absurd ⟨h0, by omega⟩ q.2) (fun _ => QWx (fun J1 R1 c1 t1 j1 hRK1 hC1 => ?_))
      have hV1 := LV_cls hV j1 hRK1 hC1
      clear hV
      have hV := hV1
      clear hV1
      have huw := uwZ_is (z := z) (o := e.toNat) (p := p.toNat) (w := i) ⟨h0, by omega⟩ (by omega) (by omega)
      refine af_I (cc := 2) (tt := 12) rfl rfl (by decide) ?_
      try dsimp only
      try simp (disch := omega) only [hV.l.d.1.2.2.1, hV.l.o.e0, hV.l.o.e1, hV.l.o.e2, hV.l.o.e3]
      refine B_L_told_306 ?_
      try dsimp only
      try simp (disch := omega) only [hV.l.d.1.2.2.1, hV.l.o.e0, hV.l.o.e1, hV.l.o.e2, hV.l.o.e3]
      refine ⟨fun c309_1 => ?_, fun c309_1 => ?_⟩
      · refine B_L_told_327 ?_
        try dsimp only
        try simp (disch := omega) only [hV.l.d.1.2.2.1, hV.l.o.e0, hV.l.o.e1, hV.l.o.e2, hV.l.o.e3]
        refine ⟨by (refine ⟨?_, ?_⟩ <;> omega), ?_⟩
        refine ⟨by (refine ⟨?_, ?_⟩ <;> omega), ?_⟩
        refine ⟨_, by first | exact (LH_app hS).2.1 | exact (LH_app hS).2.2.1 | exact (LH_app hS).2.2.2 | exact (LH_app hS).1, ⟨by omega, by omega⟩, ?_⟩
        try simp (disch := omega) only [hV.l.d.1.2.2.1, hV.l.o.e0, hV.l.o.e1, hV.l.o.e2, hV.l.o.e3]
        refine B_L_told_337 ?_
        try dsimp only
        have hnx : X G mL_told Q 342 [some (aR (some 0)), some (aI x), some (aI y), some (aR (some 361)), some (aR (some 362)), some (aR (some 363)), some (aR (some 364)), some (aI f), some (aI ((D : Nat) : Int)), some (aI p), some (aI e), some (aI i), none, none] [] (J1, R1, L, SH (sT ++ U), 0, c - 2, t - 12) := by
          refine B_L_told_342 ?_
          try dsimp only
          refine ⟨by (refine ⟨?_, ?_⟩ <;> omega), ?_⟩
          exact ih J1 R1 _ _ (i + 1) (by omega) (by omega) hV (by omega) (by omega)
        refine ⟨fun _ => hnx, fun q => absurd ?_ q⟩
        rw [← huw]
        first
          | (obtain rfl : i = 2 := by omega
             rfl)
          | (have hee := (hV.l.o e he.1 he.2).1 i.toNat (by omega)
             rw [show (4 * e + i).toNat = 4 * e.toNat + i.toNat by omega, hee]
             exact (if_neg (by omega)).symm)
      · refine ⟨by (refine ⟨?_, ?_⟩ <;> omega), ?_⟩
        refine ⟨by (refine ⟨?_, ?_⟩ <;> omega), ?_⟩
        refine ⟨_, by first | exact (LH_app hS).2.1 | exact (LH_app hS).2.2.1 | exact (LH_app hS).2.2.2 | exact (LH_app hS).1, ⟨by omega, by omega⟩, ?_⟩
        try simp (disch := omega) only [hV.l.d.1.2.2.1, hV.l.o.e0, hV.l.o.e1, hV.l.o.e2, hV.l.o.e3]
        refine ⟨⟨Nat.zero_le _, Nat.zero_le _, Nat.le_of_ble_eq_true rfl⟩, trivial, ?_⟩
        have hin := hV.l.o.g he.1 he.2
        refine K_big hG (sm_in hin) ?_
        rw [bg_sm hin]
        refine af_I0 rfl rfl (by decide) ?_
        try dsimp only
        try simp (disch := omega) only [hV.l.d.1.2.2.1, hV.l.o.e0, hV.l.o.e1, hV.l.o.e2, hV.l.o.e3]
        refine B_L_told_324 ?_
        try dsimp only
        try simp (disch := omega) only [hV.l.d.1.2.2.1, hV.l.o.e0, hV.l.o.e1, hV.l.o.e2, hV.l.o.e3]
        refine B_L_told_337 ?_
        try dsimp only
        have hnx : X G mL_told Q 342 [some (aR (some 0)), some (aI x), some (aI y), some (aR (some 361)), some (aR (some 362)), some (aR (some 363)), some (aR (some 364)), some (aI f), some (aI ((D : Nat) : Int)), some (aI p), some (aI e), some (aI i), none, none] [] (J1, R1, L, SH (sT ++ U), 0, c - 2, t - 12) := by
          refine B_L_told_342 ?_
          try dsimp only
          refine ⟨by (refine ⟨?_, ?_⟩ <;> omega), ?_⟩
          exact ih J1 R1 _ _ (i + 1) (by omega) (by omega) hV (by omega) (by omega)
        refine ⟨fun _ => hnx, fun q => absurd ?_ q⟩
        rw [← huw]
        first
          | (obtain rfl : i = 2 := by omega
             rfl)
          | (have hee := (hV.l.o e he.1 he.2).1 i.toNat (by omega)
             rw [show (4 * e + i).toNat = 4 * e.toNat + i.toNat by omega, hee]
             exact (if_neg (by omega)).symm)
theorem KD_orders {G : amG} {Q : amR → amH → Prop} (hG : amG0 G) {sT : List (Nat × Nat)} (hS : LH (SH sT) 362 363 364) {I0 : Nat → Nat → Int} {z : Row} {nv : Int} {zs : Nat → Row} {N : Nat} (hN : N = 361 + sT.length) {x y f : Int} {L : Nat → Nat → Int64} {U : List (Nat × Nat)} {c0 t0 : Nat} (hK : ∀ (J : Nat → Nat → Int) (R : Nat → Nat → Option Nat) (c t : Nat) (p : Int) (D : Nat) (o10 o11 : Option amV), LV N I0 J R z nv zs → c0 ≤ c → t0 ≤ t → X G mL_told Q 354 [some (aR (some 0)), some (aI x), some (aI y), some (aR (some 361)), some (aR (some 362)), some (aR (some 363)), some (aR (some 364)), some (aI f), some (aI ((D : Nat) : Int)), some (aI p), o10, o11, none, none] [] (J, R, L, SH (sT ++ U), 0, c, t)) :
    ∀ (n : Nat) (J : Nat → Nat → Int) (R : Nat → Nat → Option Nat) (c t : Nat) (p : Int) (D : Nat) (o10 o11 : Option amV), 0 ≤ p → (z 195 - p < n ∧ p ≤ z 195) → dnP z D p → LV N I0 J R z nv zs → c0 + 8 * (z 195 - p).toNat ≤ c → t0 + 48 * (z 195 - p).toNat ≤ t → X G mL_told Q 210 [some (aR (some 0)), some (aI x), some (aI y), some (aR (some 361)), some (aR (some 362)), some (aR (some 363)), some (aR (some 364)), some (aI f), some (aI ((D : Nat) : Int)), some (aI p), o10, o11, none, none] [] (J, R, L, SH (sT ++ U), 0, c, t) := by
  intro n
  induction n with
  | zero =>
    intros
    exfalso; omega
  | succ n ih =>
    intro J R c t p D o10 o11 h0 hp hd hV hc ht
    have hZm := hV.l.m
    refine B_L_told_210 ?_
    try dsimp only
    try simp (disch := omega) only [hV.l.d.1.2.2.1, hV.l.o.e0, hV.l.o.e1, hV.l.o.e2, hV.l.o.e3]
    refine ⟨_, by first | exact (LH_app hS).2.1 | exact (LH_app hS).2.2.1 | exact (LH_app hS).2.2.2 | exact (LH_app hS).1, ⟨by omega, by omega⟩, ?_⟩
    try simp (disch := omega) only [hV.l.d.1.2.2.1, hV.l.o.e0, hV.l.o.e1, hV.l.o.e2, hV.l.o.e3]
    refine ⟨fun c216_0 => ?_, fun c216_0 => ?_⟩
    · exact hK J R c t p D _ _ hV (by omega) (by omega)
    · refine KD_sel hG hS hN (D := D) (p := p) hV hd.1 (fun e m he => ?_) 13 (-1) 0 (by decide) (by omega) (Or.inl ⟨rfl, fun i hi => by omega⟩)
      have hlt : p < z 195 := by omega
      obtain ⟨he1, he2⟩ := nx_rk hV.f.1.2.1.1.1 hd he ⟨h0, hlt⟩
      have hob := or_b (D := D) (k := e.toNat) hd.1 (by omega)
      rw [Int.toNat_of_nonneg he1.1] at hob
      refine B_L_told_280 ?_
      try dsimp only
      try simp only [hob.1]
      refine KD_ofig hG hS hN (D := D ||| 2 ^ e.toNat) (c0 := c0 + 8 * (z 195 - p).toNat - 8) (t0 := t0 + 48 * (z 195 - p).toNat - 48) ⟨h0, hlt⟩ he1 he2 (fun J R c t i hV hc ht => ?_) 5 J R c t 0 (by decide) (by decide) hV (by omega) (by omega)
      refine B_L_told_348 ?_
      try dsimp only
      refine ⟨by (refine ⟨?_, ?_⟩ <;> omega), ?_⟩
      exact ih J R c t (p + 1) (D ||| 2 ^ e.toNat) _ _ (by omega) (by omega) (dn_next hd hZm he1 he2) hV (by omega) (by omega)
theorem KD_counts {G : amG} {Q : amR → amH → Prop} (hG : amG0 G) {sT : List (Nat × Nat)} (hS : LH (SH sT) 362 363 364) {I0 : Nat → Nat → Int} {z : Row} {nv : Int} {zs : Nat → Row} {N : Nat} (hN : N = 361 + sT.length) {x y f D : Int} {o10 o11 : Option amV} {L : Nat → Nat → Int64} {U : List (Nat × Nat)} {c0 t0 : Nat} (hK : ∀ (J : Nat → Nat → Int) (R : Nat → Nat → Option Nat) (c t : Nat) (k : Int), LV N I0 J R z nv zs → c0 ≤ c → t0 ≤ t → X G mL_told Q 390 [some (aR (some 0)), some (aI x), some (aI y), some (aR (some 361)), some (aR (some 362)), some (aR (some 363)), some (aR (some 364)), some (aI f), some (aI D), some (aI k), o10, o11, none, none] [] (J, R, L, SH (sT ++ U), 0, c, t)) :
    ∀ (n : Nat) (J : Nat → Nat → Int) (R : Nat → Nat → Option Nat) (c t : Nat) (k : Int), 0 ≤ k → (11 - k < n ∧ k ≤ 11) → LV N I0 J R z nv zs → c0 + (11 - k.toNat) ≤ c → t0 + 6 * (11 - k.toNat) ≤ t → X G mL_told Q 357 [some (aR (some 0)), some (aI x), some (aI y), some (aR (some 361)), some (aR (some 362)), some (aR (some 363)), some (aR (some 364)), some (aI f), some (aI D), some (aI k), o10, o11, none, none] [] (J, R, L, SH (sT ++ U), 0, c, t) := by
  intro n
  induction n with
  | zero =>
    intros
    exfalso; omega
  | succ n ih =>
    intro J R c t k h0 hk hV hc ht
    refine B_L_told_357 ?_
    try dsimp only
    skip
    refine ⟨fun c361_0 => ?_, fun c361_0 => ?_⟩
    · exact hK J R c t k hV (by omega) (by omega)
    · refine ⟨⟨by omega, by omega, Nat.le_of_ble_eq_true rfl⟩, so0, ?_⟩
      refine D_count hG hV.k hV.c hV.f (fun q => absurd ⟨h0, by omega⟩ q) (fun _ => QWx (fun J1 R1 c1 t1 j1 hRK1 hC1 => ?_))
      have hV1 := LV_cls hV j1 hRK1 hC1
      clear hV
      have hV := hV1
      clear hV1
      rw [if_neg (by omega)]
      refine af_I (cc := 1) (tt := 6) rfl rfl (by decide) ?_
      try dsimp only
      skip
      refine B_L_told_370 ?_
      try dsimp only
      skip
      refine ⟨⟨Nat.zero_le _, Nat.zero_le _, Nat.le_of_ble_eq_true rfl⟩, trivial, ?_⟩
      refine K_counted hG (LH_app hS).2.1 (LH_app hS).2.2.2 hV.l.t hV.l.d hV.l.n hV.b ⟨h0, by omega⟩ ?_
      refine af_I0 rfl rfl (by decide) ?_
      try dsimp only
      skip
      refine B_L_told_379 ?_
      try dsimp only
      skip
      refine ⟨fun c379_2 => ?_, fun c379_2 => ?_⟩
      · refine B_L_told_384 ?_
        try dsimp only
        skip
        refine ⟨by (refine ⟨?_, ?_⟩ <;> omega), ?_⟩
        exact ih J1 R1 _ _ (k + 1) (by omega) (by omega) hV (by omega) (by omega)
      · refine ⟨by first | exact Or.inl rfl | exact Or.inr rfl | trivial | exact Or.inl trivial | exact Or.inr trivial | omega, ?_⟩
        first
          | exact absurd True.intro (by assumption)
          | exact absurd rfl (by assumption)
          | (exfalso; omega)
