/-! ===== the law: a turn ===== -/
def FR (N aT aO aD : Nat) (I J : Nat → Nat → Int) : Prop := ∀ a : Nat, a < N → a ≠ aT → a ≠ aO → a ≠ aD → J a = I a
theorem FR_u2 {N aT aO aD b : Nat} {I J : Nat → Nat → Int} (h : FR N aT aO aD I J) (hb : b = aT ∨ b = aO ∨ b = aD) (i : Nat) (v : Int) : FR N aT aO aD I (u2 J b i v) := fun a h1 h2 h3 h4 => by
  rw [u2_off _ _ _ (by rcases hb with q | q | q <;> omega)]
  exact h a h1 h2 h3 h4
def LQ (N aT aO aD : Nat) (I J : Nat → Nat → Int) (z : Row) : Prop := LZ J aT aO aD z ∧ FR N aT aO aD I J
theorem LQ_wn {N aT aO aD : Nat} {I J : Nat → Nat → Int} {z : Row} (hA : LA aT aO aD) (h : LQ N aT aO aD I J z) {k : Int} (hk : 0 ≤ k ∧ k < z 98) (f : Nat) {i : Nat} (hf : f < 8 ∧ f ≠ 1 ∧ f ≠ 3) (hi : i = 8 * k.toNat + f) (v : Int) : LQ N aT aO aD I (u2 J aT i v) (uz z (99 + 8 * k.toNat + f) v) := ⟨LZ_wn hA h.1 hk f hf hi v, FR_u2 h.2 (Or.inl rfl) _ _⟩
theorem LQ_wc {N aT aO aD : Nat} {I J : Nat → Nat → Int} {z : Row} (hA : LA aT aO aD) (h : LQ N aT aO aD I J z) {k : Int} (hk : 0 ≤ k ∧ k < z 98) (f : Nat) {i : Nat} (hf : f = 1 ∨ f = 3) (hi : i = 8 * k.toNat + f) {w : Int} (hw : inL w) : LQ N aT aO aD I (u2 J aT i (s8 w)) (uz z (99 + 8 * k.toNat + f) w) := ⟨LZ_wc hA h.1 hk f hf hi hw, FR_u2 h.2 (Or.inl rfl) _ _⟩
theorem LQ_d {N aT aO aD : Nat} {I J : Nat → Nat → Int} {z : Row} (hA : LA aT aO aD) (h : LQ N aT aO aD I J z) {i j : Nat} (hij : (i = 0 ∧ j = 316) ∨ (i = 3 ∧ j = 317) ∨ (i = 4 ∧ j = 318) ∨ (i = 5 ∧ j = 319) ∨ (i = 6 ∧ j = 320)) (v : Int) : LQ N aT aO aD I (u2 J aD i v) (uz z j v) := ⟨LZ_d hA h.1 hij v, FR_u2 h.2 (Or.inr (Or.inr rfl)) _ _⟩
theorem LQ_d2 {N aT aO aD : Nat} {I J : Nat → Nat → Int} {z : Row} (hA : LA aT aO aD) (h : LQ N aT aO aD I J z) {v : Int} (hv : v ≤ z 195) : LQ N aT aO aD I (u2 J aD 2 v) (uz z 195 v) := ⟨LZ_d2 hA h.1 hv, FR_u2 h.2 (Or.inr (Or.inr rfl)) _ _⟩
theorem LQ_cp {N aT aO aD : Nat} {I J : Nat → Nat → Int} {z : Row} (hA : LA aT aO aD) (h : LQ N aT aO aD I J z) {k l : Int} (hk : 0 ≤ k ∧ k < z 195) (hl : 0 ≤ l ∧ l < z 195) {f i j : Nat} (hf : f < 4) (hi : i = 4 * l.toNat + f) (hj : j = 4 * k.toNat + f) : LQ N aT aO aD I (u2 J aO i (J aO j)) (uz z (196 + 4 * l.toNat + f) (z (196 + 4 * k.toNat + f))) := ⟨LZ_cp hA h.1 hk hl hf hi hj, FR_u2 h.2 (Or.inr (Or.inl rfl)) _ _⟩
theorem cm_316 {z : Row} (ho : ∀ k : Nat, (k : Int) < z 195 → (0 ≤ z (196 + 4 * k + 1) ∧ z (196 + 4 * k + 1) < 12) ∧ isC (z (196 + 4 * k + 2))) (h30 : z 195 ≤ 30) (k : Nat) (hk : (k : Int) ≤ z 195) : (cmS z k).1 316 = z 316 :=
  (cm_inv ho h30 k hk).2.1 316 (by omega) (by decide)
theorem KT_cp {G : amG} {I : Nat → Nat → Int} {R : Nat → Nat → Option Nat} {L : Nat → Nat → Int64} {S : List (Nat × Nat)} {c t : Nat} {Q : amR → amH → Prop} (hG : amG0 G) {aT aO aD N : Nat} (hH : LH S aT aO aD) (hA : LA aT aO aD) {y0 : Row} {k l : Int} (hk : 0 ≤ k ∧ k < y0 195) (hl : 0 ≤ l ∧ l ≤ k) (h12 : y0 195 ≤ 12) (hK : ∀ (J : Nat → Nat → Int) (m : Int), LQ N aT aO aD I J (cpZ y0 k.toNat l.toNat 4) → X G mL_turn Q 68 [some (aR (some 361)), some (aR (some aT)), some (aR (some aO)), some (aR (some aD)), some (aI l), some (aI k), some (aI m), none, none, none, none] [] (J, R, L, S, 0, c, t)) :
    ∀ (n : Nat) (J : Nat → Nat → Int) (m : Int), 0 ≤ m → (4 - m < n ∧ m ≤ 4) → LQ N aT aO aD I J (cpZ y0 k.toNat l.toNat m.toNat) → X G mL_turn Q 38 [some (aR (some 361)), some (aR (some aT)), some (aR (some aO)), some (aR (some aD)), some (aI l), some (aI k), some (aI m), none, none, none, none] [] (J, R, L, S, 0, c, t) := by
  intro n
  induction n with
  | zero =>
    intros
    exfalso; omega
  | succ n ih =>
    intro J m h0 hm hZ
    have e195 : cpZ y0 k.toNat l.toNat m.toNat 195 = y0 195 := by
      rw [cpZ_at (by omega) _ (by omega), if_neg (by omega)]
    refine B_L_turn_38 ?_
    try dsimp only
    refine ⟨fun c41_0 => ?_, fun c41_0 => ?_⟩
    · have e : m.toNat = 4 := by omega
      rw [e] at hZ
      exact hK J m hZ
    · refine ⟨by (refine ⟨?_, ?_⟩ <;> omega), ?_⟩
      refine ⟨by (refine ⟨?_, ?_⟩ <;> omega), ?_⟩
      refine ⟨by (refine ⟨?_, ?_⟩ <;> omega), ?_⟩
      refine ⟨by (refine ⟨?_, ?_⟩ <;> omega), ?_⟩
      refine ⟨_, hH.2.2.1, ⟨by omega, by omega⟩, ?_⟩
      refine ⟨_, hH.2.2.1, ⟨by omega, by omega⟩, ?_⟩
      refine ⟨by (refine ⟨?_, ?_⟩ <;> omega), ?_⟩
      refine ih _ (m + 1) (by omega) (by omega) ?_
      rw [show (m + 1).toNat = m.toNat + 1 by omega, cpZ_s]
      exact LQ_cp hA hZ (k := k) (l := l) (f := m.toNat) (i := (4 * l + m).toNat) (j := (4 * k + m).toNat) (by omega) (by omega) (by omega) (by omega) (by omega)
theorem KT_come {G : amG} {I : Nat → Nat → Int} {R : Nat → Nat → Option Nat} {L : Nat → Nat → Int64} {S : List (Nat × Nat)} {c t : Nat} {Q : amR → amH → Prop} (hG : amG0 G) {aT aO aD N : Nat} (hH : LH S aT aO aD) (hA : LA aT aO aD) {z : Row} (hn : wfN z) (hw : wfO z (z 316)) (h12 : z 195 ≤ 12) (h7 : ∀ l : Nat, l < 12 → 0 ≤ tf z l 7 ∧ tf z l 7 ≤ 100000) (h8 : 0 ≤ z 318 ∧ z 318 ≤ 100000) (hK : ∀ (J : Nat → Nat → Int) (k : Int) (o : Option amV) (y : Row) (l : Int), y = (cmS z (z 195).toNat).1 → l = (cmS z (z 195).toNat).2 → LQ N aT aO aD I J y → X G mL_turn Q 137 [some (aR (some 361)), some (aR (some aT)), some (aR (some aO)), some (aR (some aD)), some (aI l), some (aI k), o, none, none, none, none] [] (J, R, L, S, 0, c, t)) :
    ∀ (n : Nat) (J : Nat → Nat → Int) (y : Row) (k l : Int) (o : Option amV), 0 ≤ k → (z 195 - k < n ∧ k ≤ z 195) → y = (cmS z k.toNat).1 → l = (cmS z k.toNat).2 → LQ N aT aO aD I J y → X G mL_turn Q 13 [some (aR (some 361)), some (aR (some aT)), some (aR (some aO)), some (aR (some aD)), some (aI l), some (aI k), o, none, none, none, none] [] (J, R, L, S, 0, c, t) := by
  intro n
  induction n with
  | zero =>
    intros
    exfalso; omega
  | succ n ih =>
    intro J y k l o h0 hk hy hl hZ
    have hn2 := hn.2
    have hZn := hZ.1.n
    have hc := cm_inv (wfO_12 hn hw) (by omega : z 195 ≤ 30) k.toNat (by omega)
    rw [← hy, ← hl] at hc
    obtain ⟨hc1, hc2, hc3, hc4, hc5, hc6⟩ := hc
    have e195 : y 195 = z 195 := hc2 195 (by omega) (by decide)
    have e98 : y 98 = z 98 := hc2 98 (by omega) (by decide)
    have e316 : y 316 = z 316 := by
      rw [hy, cm_316 (wfO_12 hn hw) (by omega) k.toNat (by omega)]
    refine B_L_turn_13 ?_
    try dsimp only
    try simp (disch := omega) only [hZ.1.d.1.1, hZ.1.d.1.2.2.1, hZ.1.o.e3, hZ.1.o.e2, hZ.1.o.e1, hZ.1.t.e4, e195, e316]
    refine ⟨_, by first | exact hH.2.1 | exact hH.2.2.1 | exact hH.2.2.2 | exact hH.1, ⟨by omega, by omega⟩, ?_⟩
    try simp (disch := omega) only [hZ.1.d.1.1, hZ.1.d.1.2.2.1, hZ.1.o.e3, hZ.1.o.e2, hZ.1.o.e1, hZ.1.t.e4, e195, e316]
    refine ⟨fun c18_0 => ?_, fun c18_0 => ?_⟩
    · exact hK J _ _ y l (by rw [hy, show k.toNat = (z 195).toNat by omega]) (by rw [hl, show k.toNat = (z 195).toNat by omega]) hZ
    · refine ⟨by (refine ⟨?_, ?_⟩ <;> omega), ?_⟩
      refine ⟨by (refine ⟨?_, ?_⟩ <;> omega), ?_⟩
      refine ⟨_, by first | exact hH.2.1 | exact hH.2.2.1 | exact hH.2.2.2 | exact hH.1, ⟨by omega, by omega⟩, ?_⟩
      try simp (disch := omega) only [hZ.1.d.1.1, hZ.1.d.1.2.2.1, hZ.1.o.e3, hZ.1.o.e2, hZ.1.o.e1, hZ.1.t.e4, e195, e316]
      refine ⟨_, by first | exact hH.2.1 | exact hH.2.2.1 | exact hH.2.2.2 | exact hH.1, ⟨by omega, by omega⟩, ?_⟩
      try simp (disch := omega) only [hZ.1.d.1.1, hZ.1.d.1.2.2.1, hZ.1.o.e3, hZ.1.o.e2, hZ.1.o.e1, hZ.1.t.e4, e195, e316]
      refine ⟨fun c32_0 => ?_, fun c32_0 => ?_⟩
      · refine B_L_turn_74 ?_
        try dsimp only
        try simp (disch := omega) only [hZ.1.d.1.1, hZ.1.d.1.2.2.1, hZ.1.o.e3, hZ.1.o.e2, hZ.1.o.e1, hZ.1.t.e4, e195, e316]
        have hq := hw.2 k.toNat (by omega)
        have e1 : y (196 + 4 * k.toNat + 1) = z (196 + 4 * k.toNat + 1) := hc2 _ (by omega) (by omega)
        rw [← e1] at hq
        have hq1 := hq.1.1
        have hq2 : y (196 + 4 * k.toNat + 1) < y 98 := by omega
        have hgl := hZ.1.o.g h0 (by omega : k < y 195)
        have hq7 := hc5 (y (196 + 4 * k.toNat + 1)).toNat (by omega)
        have hb7 := h7 (y (196 + 4 * k.toNat + 1)).toNat (by omega)
        have hdue : y (196 + 4 * k.toNat + 3) = z 316 := by assumption
        refine ⟨by (refine ⟨?_, ?_⟩ <;> omega), ?_⟩
        refine ⟨by (refine ⟨?_, ?_⟩ <;> omega), ?_⟩
        refine ⟨_, by first | exact hH.2.1 | exact hH.2.2.1 | exact hH.2.2.2 | exact hH.1, ⟨by omega, by omega⟩, ?_⟩
        try simp (disch := omega) only [hZ.1.d.1.1, hZ.1.d.1.2.2.1, hZ.1.o.e3, hZ.1.o.e2, hZ.1.o.e1, hZ.1.t.e4, e195, e316]
        refine ⟨by (refine ⟨?_, ?_⟩ <;> omega), ?_⟩
        refine ⟨by (refine ⟨?_, ?_⟩ <;> omega), ?_⟩
        refine ⟨_, by first | exact hH.2.1 | exact hH.2.2.1 | exact hH.2.2.2 | exact hH.1, ⟨by omega, by omega⟩, ?_⟩
        try simp (disch := omega) only [hZ.1.d.1.1, hZ.1.d.1.2.2.1, hZ.1.o.e3, hZ.1.o.e2, hZ.1.o.e1, hZ.1.t.e4, e195, e316]
        refine ⟨fun c93_1 => ?_, fun c93_1 => ?_⟩
        · refine B_L_turn_124 ?_
          try dsimp only
          try simp (disch := omega) only [hZ.1.d.1.1, hZ.1.d.1.2.2.1, hZ.1.o.e3, hZ.1.o.e2, hZ.1.o.e1, hZ.1.t.e4, e195, e316]
          have e4 := hZ.1.d.1.2.2.2.2.1
          refine ⟨⟨rfl, rfl⟩, ?_⟩
          refine ⟨_, by first | exact hH.2.1 | exact hH.2.2.1 | exact hH.2.2.2 | exact hH.1, ⟨by omega, by omega⟩, ?_⟩
          try simp (disch := omega) only [hZ.1.d.1.1, hZ.1.d.1.2.2.1, hZ.1.o.e3, hZ.1.o.e2, hZ.1.o.e1, hZ.1.t.e4, e195, e316]
          refine ⟨by (refine ⟨?_, ?_⟩ <;> omega), ?_⟩
          refine ⟨_, by first | exact hH.2.1 | exact hH.2.2.1 | exact hH.2.2.2 | exact hH.1, ⟨by omega, by omega⟩, ?_⟩
          try simp (disch := omega) only [hZ.1.d.1.1, hZ.1.d.1.2.2.1, hZ.1.o.e3, hZ.1.o.e2, hZ.1.o.e1, hZ.1.t.e4, e195, e316]
          refine B_L_turn_131 ?_
          try dsimp only
          try simp (disch := omega) only [hZ.1.d.1.1, hZ.1.d.1.2.2.1, hZ.1.o.e3, hZ.1.o.e2, hZ.1.o.e1, hZ.1.t.e4, e195, e316]
          refine ⟨by (refine ⟨?_, ?_⟩ <;> omega), ?_⟩
          first
            | (have es : cmS z (k.toNat + 1) = (comeZ y (y (196 + 4 * k.toNat + 1)).toNat (y (196 + 4 * k.toNat + 2)), l) := by
                 rw [cmS_s, ← hy, ← hl, if_pos (by rw [e316]; exact hdue)]
               have ec : comeZ y (y (196 + 4 * k.toNat + 1)).toNat (y (196 + 4 * k.toNat + 2)) = uz (uz y (99 + 8 * (y (196 + 4 * k.toNat + 1)).toNat + 3) (y (196 + 4 * k.toNat + 2))) (99 + 8 * (y (196 + 4 * k.toNat + 1)).toNat + 7) (y (99 + 8 * (y (196 + 4 * k.toNat + 1)).toNat + 7) + 1) := by
                 unfold comeZ
                 exact if_pos (by show tf y _ 4 = 0; omega)
               have hZ3 := LQ_wn hA hZ2 (k := y (196 + 4 * k.toNat + 1)) ⟨hq1, by rw [uz_ne _ _ (by omega)]; exact hq2⟩ 7 (i := (8 * y (196 + 4 * k.toNat + 1) + 7).toNat) (by decide) (by omega) (tf y (y (196 + 4 * k.toNat + 1)).toNat 7 + 1)
               rw [e7]
               refine ih _ _ (k + 1) l _ (by omega) (by omega) ?_ ?_ hZ3
               · rw [show (k + 1).toNat = k.toNat + 1 by omega, es, ec]
               · rw [show (k + 1).toNat = k.toNat + 1 by omega, es])
            | (have es : cmS z (k.toNat + 1) = (comeZ y (y (196 + 4 * k.toNat + 1)).toNat (y (196 + 4 * k.toNat + 2)), l) := by
                 rw [cmS_s, ← hy, ← hl, if_pos (by rw [e316]; exact hdue)]
               have ec : comeZ y (y (196 + 4 * k.toNat + 1)).toNat (y (196 + 4 * k.toNat + 2)) = uz y 318 (y 318 + 1) := by
                 unfold comeZ
                 exact if_neg (by show ¬ tf y _ 4 = 0; omega)
               have hZ3 := LQ_d hA hZ (i := 4) (j := 318) (by omega) (y 318 + 1)
               rw [e4]
               refine ih _ _ (k + 1) l _ (by omega) (by omega) ?_ ?_ hZ3
               · rw [show (k + 1).toNat = k.toNat + 1 by omega, es, ec]
               · rw [show (k + 1).toNat = k.toNat + 1 by omega, es])
        · refine ⟨by (refine ⟨?_, ?_⟩ <;> omega), ?_⟩
          refine ⟨by (refine ⟨?_, ?_⟩ <;> omega), ?_⟩
          refine ⟨by (refine ⟨?_, ?_⟩ <;> omega), ?_⟩
          refine ⟨_, by first | exact hH.2.1 | exact hH.2.2.1 | exact hH.2.2.2 | exact hH.1, ⟨by omega, by omega⟩, ?_⟩
          try simp (disch := omega) only [hZ.1.d.1.1, hZ.1.d.1.2.2.1, hZ.1.o.e3, hZ.1.o.e2, hZ.1.o.e1, hZ.1.t.e4, e195, e316]
          refine ⟨_, by first | exact hH.2.1 | exact hH.2.2.1 | exact hH.2.2.2 | exact hH.1, ⟨by omega, by omega⟩, ?_⟩
          try simp (disch := omega) only [hZ.1.d.1.1, hZ.1.d.1.2.2.1, hZ.1.o.e3, hZ.1.o.e2, hZ.1.o.e1, hZ.1.t.e4, e195, e316]
          have hZ2 := LQ_wc hA hZ (k := y (196 + 4 * k.toNat + 1)) ⟨hq1, hq2⟩ 3 (i := (8 * y (196 + 4 * k.toNat + 1) + 3).toNat) (Or.inr rfl) (by omega) hgl
          have e7 := hZ2.1.t.e7 (k := y (196 + 4 * k.toNat + 1)) hq1 (by rw [uz_ne _ _ (by omega)]; exact hq2)
          have e7b : tf (uz y (99 + 8 * (y (196 + 4 * k.toNat + 1)).toNat + 3) (y (196 + 4 * k.toNat + 2))) (y (196 + 4 * k.toNat + 1)).toNat 7 = tf y (y (196 + 4 * k.toNat + 1)).toNat 7 := uz_ne _ _ (by omega)
          rw [e7b] at e7
          refine ⟨by (refine ⟨?_, ?_⟩ <;> omega), ?_⟩
          refine ⟨⟨rfl, rfl⟩, ?_⟩
          refine ⟨_, by first | exact hH.2.1 | exact hH.2.2.1 | exact hH.2.2.2 | exact hH.1, ⟨by omega, by omega⟩, ?_⟩
          try simp (disch := omega) only [hZ.1.d.1.1, hZ.1.d.1.2.2.1, hZ.1.o.e3, hZ.1.o.e2, hZ.1.o.e1, hZ.1.t.e4, e195, e316]
          refine ⟨by (refine ⟨?_, ?_⟩ <;> omega), ?_⟩
          refine ⟨_, by first | exact hH.2.1 | exact hH.2.2.1 | exact hH.2.2.2 | exact hH.1, ⟨by omega, by omega⟩, ?_⟩
          try simp (disch := omega) only [hZ.1.d.1.1, hZ.1.d.1.2.2.1, hZ.1.o.e3, hZ.1.o.e2, hZ.1.o.e1, hZ.1.t.e4, e195, e316]
          refine B_L_turn_131 ?_
          try dsimp only
          try simp (disch := omega) only [hZ.1.d.1.1, hZ.1.d.1.2.2.1, hZ.1.o.e3, hZ.1.o.e2, hZ.1.o.e1, hZ.1.t.e4, e195, e316]
          refine ⟨by (refine ⟨?_, ?_⟩ <;> omega), ?_⟩
          first
            | (have es : cmS z (k.toNat + 1) = (comeZ y (y (196 + 4 * k.toNat + 1)).toNat (y (196 + 4 * k.toNat + 2)), l) := by
                 rw [cmS_s, ← hy, ← hl, if_pos (by rw [e316]; exact hdue)]
               have ec : comeZ y (y (196 + 4 * k.toNat + 1)).toNat (y (196 + 4 * k.toNat + 2)) = uz (uz y (99 + 8 * (y (196 + 4 * k.toNat + 1)).toNat + 3) (y (196 + 4 * k.toNat + 2))) (99 + 8 * (y (196 + 4 * k.toNat + 1)).toNat + 7) (y (99 + 8 * (y (196 + 4 * k.toNat + 1)).toNat + 7) + 1) := by
                 unfold comeZ
                 exact if_pos (by show tf y _ 4 = 0; omega)
               have hZ3 := LQ_wn hA hZ2 (k := y (196 + 4 * k.toNat + 1)) ⟨hq1, by rw [uz_ne _ _ (by omega)]; exact hq2⟩ 7 (i := (8 * y (196 + 4 * k.toNat + 1) + 7).toNat) (by decide) (by omega) (tf y (y (196 + 4 * k.toNat + 1)).toNat 7 + 1)
               rw [e7]
               refine ih _ _ (k + 1) l _ (by omega) (by omega) ?_ ?_ hZ3
               · rw [show (k + 1).toNat = k.toNat + 1 by omega, es, ec]
               · rw [show (k + 1).toNat = k.toNat + 1 by omega, es])
            | (have es : cmS z (k.toNat + 1) = (comeZ y (y (196 + 4 * k.toNat + 1)).toNat (y (196 + 4 * k.toNat + 2)), l) := by
                 rw [cmS_s, ← hy, ← hl, if_pos (by rw [e316]; exact hdue)]
               have ec : comeZ y (y (196 + 4 * k.toNat + 1)).toNat (y (196 + 4 * k.toNat + 2)) = uz y 318 (y 318 + 1) := by
                 unfold comeZ
                 exact if_neg (by show ¬ tf y _ 4 = 0; omega)
               have hZ3 := LQ_d hA hZ (i := 4) (j := 318) (by omega) (y 318 + 1)
               rw [e4]
               refine ih _ _ (k + 1) l _ (by omega) (by omega) ?_ ?_ hZ3
               · rw [show (k + 1).toNat = k.toNat + 1 by omega, es, ec]
               · rw [show (k + 1).toNat = k.toNat + 1 by omega, es])
      · refine KT_cp hG hH hA (y0 := y) (k := k) (l := l) ⟨h0, by omega⟩ ⟨by omega, by omega⟩ (by omega) (fun J2 m hZ2 => ?_) 5 J 0 (by decide) (by omega) hZ
        refine B_L_turn_68 ?_
        try dsimp only
        refine ⟨by (refine ⟨?_, ?_⟩ <;> omega), ?_⟩
        refine B_L_turn_131 ?_
        try dsimp only
        refine ⟨by (refine ⟨?_, ?_⟩ <;> omega), ?_⟩
        have es : cmS z (k.toNat + 1) = (cpZ y k.toNat l.toNat 4, l + 1) := by
          rw [cmS_s, ← hy, ← hl, if_neg (by rw [e316]; assumption)]
        refine ih J2 (cpZ y k.toNat l.toNat 4) (k + 1) (l + 1) _ (by omega) (by omega) (by rw [show (k + 1).toNat = k.toNat + 1 by omega, es]) (by rw [show (k + 1).toNat = k.toNat + 1 by omega, es]) hZ2
