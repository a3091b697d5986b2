/-! ===== ahead: the class is asked what would be; the law plays it on copies ===== -/
theorem LZ_copy {J : Nat → Nat → Int} {a b d : Nat} {z : Row} (h : LZ J 362 363 364 z) (h1 : ∀ i : Nat, i < 48 → J a i = J 362 i) (h2 : ∀ i : Nat, i < 48 → J b i = J 363 i) (h3 : ∀ i : Nat, i < 9 → J d i = J 364 i) : LZ J a b d z := by
  have hn := h.n
  have hm := h.m
  refine ⟨h.h, ?_, fun k k0 k1 => ?_, ?_, hn, hm⟩
  · have ht := ET_iff.mp h.t
    refine ET_iff.mpr (fun k k0 k1 => ⟨fun f hf => ?_, (ht k k0 k1).2⟩)
    rw [h1 _ (by omega)]
    exact (ht k k0 k1).1 f hf
  · have := h.o k k0 k1
    exact ⟨fun f hf => by rw [h2 _ (by omega)]; exact this.1 f hf, this.2⟩
  · have := h.d
    unfold ED at *
    rw [h3 0 (by decide), h3 1 (by decide), h3 2 (by decide), h3 3 (by decide), h3 4 (by decide), h3 5 (by decide), h3 6 (by decide), h3 7 (by decide), h3 8 (by decide)]
    exact this
def cpP (J : Nat → Nat → Int) (a b d : Nat) (j : Int) : Prop := (∀ i : Nat, (i : Int) < j → i < 48 → J a i = J 362 i) ∧ (∀ i : Nat, (i : Int) < j → i < 48 → J b i = J 363 i) ∧ ∀ i : Nat, (i : Int) < j → i < 9 → J d i = J 364 i
theorem cpP_s {J : Nat → Nat → Int} {a b d : Nat} {j : Int} (hA : LA a b d) (hg : 365 ≤ a ∧ 365 ≤ b ∧ 365 ≤ d) (h0 : 0 ≤ j) (h : cpP J a b d j) : cpP (u2 (u2 J a j.toNat (J 362 j.toNat)) b j.toNat (J 363 j.toNat)) a b d (if j < 9 then j else j + 1) ∧ (j < 9 → cpP (u2 (u2 (u2 J a j.toNat (J 362 j.toNat)) b j.toNat (J 363 j.toNat)) d j.toNat (J 364 j.toNat)) a b d (j + 1)) := by
  obtain ⟨h1, h2, h3⟩ := h
  obtain ⟨⟨g1, g2, g3⟩, g4, g5, g6⟩ := hA
  refine ⟨⟨fun i hi h4 => ?_, fun i hi h4 => ?_, fun i hi h9 => ?_⟩, fun hj => ⟨fun i hi h4 => ?_, fun i hi h4 => ?_, fun i hi h9 => ?_⟩⟩
  · rw [u2_ne (u2 J a j.toNat (J 362 j.toNat)) (a := b) (x := a) _ (fun q => by omega), u2_ne (u2 J a j.toNat (J 362 j.toNat)) (a := b) (x := 362) _ (fun q => by omega), u2_ne J (a := a) (x := 362) _ (fun q => by omega)]
    by_cases e : i = j.toNat
    · rw [e, u2_same]
    · rw [u2_ne _ _ (fun q => e q.2)]; exact h1 i (by split at hi <;> omega) h4
  · rw [u2_ne (u2 J a j.toNat (J 362 j.toNat)) (a := b) (x := 363) _ (fun q => by omega), u2_ne J (a := a) (x := 363) _ (fun q => by omega)]
    by_cases e : i = j.toNat
    · rw [e, u2_same]
    · rw [u2_ne _ _ (fun q => e q.2), u2_ne _ _ (fun q => by omega)]; exact h2 i (by split at hi <;> omega) h4
  · rw [u2_ne (u2 J a j.toNat (J 362 j.toNat)) (a := b) (x := d) _ (fun q => by omega), u2_ne J (a := a) (x := d) _ (fun q => by omega), u2_ne (u2 J a j.toNat (J 362 j.toNat)) (a := b) (x := 364) _ (fun q => by omega), u2_ne J (a := a) (x := 364) _ (fun q => by omega)]
    exact h3 i (by split at hi <;> omega) h9
  · rw [u2_ne (u2 (u2 J a j.toNat (J 362 j.toNat)) b j.toNat (J 363 j.toNat)) (a := d) (x := a) _ (fun q => by omega), u2_ne (u2 (u2 J a j.toNat (J 362 j.toNat)) b j.toNat (J 363 j.toNat)) (a := d) (x := 362) _ (fun q => by omega), u2_ne (u2 J a j.toNat (J 362 j.toNat)) (a := b) (x := a) _ (fun q => by omega), u2_ne (u2 J a j.toNat (J 362 j.toNat)) (a := b) (x := 362) _ (fun q => by omega), u2_ne J (a := a) (x := 362) _ (fun q => by omega)]
    by_cases e : i = j.toNat
    · rw [e, u2_same]
    · rw [u2_ne _ _ (fun q => e q.2)]; exact h1 i (by omega) h4
  · rw [u2_ne (u2 (u2 J a j.toNat (J 362 j.toNat)) b j.toNat (J 363 j.toNat)) (a := d) (x := b) _ (fun q => by omega), u2_ne (u2 (u2 J a j.toNat (J 362 j.toNat)) b j.toNat (J 363 j.toNat)) (a := d) (x := 363) _ (fun q => by omega), u2_ne (u2 J a j.toNat (J 362 j.toNat)) (a := b) (x := 363) _ (fun q => by omega), u2_ne J (a := a) (x := 363) _ (fun q => by omega)]
    by_cases e : i = j.toNat
    · rw [e, u2_same]
    · rw [u2_ne _ _ (fun q => e q.2), u2_ne _ _ (fun q => by omega)]; exact h2 i (by omega) h4
  · rw [u2_ne (u2 (u2 J a j.toNat (J 362 j.toNat)) b j.toNat (J 363 j.toNat)) (a := d) (x := 364) _ (fun q => by omega), u2_ne (u2 J a j.toNat (J 362 j.toNat)) (a := b) (x := 364) _ (fun q => by omega), u2_ne J (a := a) (x := 364) _ (fun q => by omega)]
    by_cases e : i = j.toNat
    · rw [e, u2_same]
    · rw [u2_ne _ _ (fun q => e q.2), u2_ne _ _ (fun q => by omega), u2_ne _ _ (fun q => by omega)]; exact h3 i (by omega) h9
theorem cpP_le {J : Nat → Nat → Int} {a b d : Nat} {j m : Int} (h : cpP J a b d j) (hm : ∀ i : Nat, (i : Int) < m → i < 48 → (i : Int) < j) : cpP J a b d m :=
  ⟨fun i hi h4 => h.1 i (hm i hi h4) h4, fun i hi h4 => h.2.1 i (hm i hi h4) h4, fun i hi h9 => h.2.2 i (hm i hi (by omega)) h9⟩
theorem KH_copy {G : amG} {Q : amR → amH → Prop} (hG : amG0 G) {sT : List (Nat × Nat)} {a b d N : Nat} (hS : LH (SH sT) 362 363 364) (hH : LH (SH sT) a b d) (hA : LA a b d) (hg : N ≤ a ∧ N ≤ b ∧ N ≤ d ∧ 365 ≤ N) {I0 : Nat → Nat → Int} {z : Row} {nv : Int} {zs : Nat → Row} {x y : Int} {p : Int} {o12 o13 : Option amV} {R : Nat → Nat → Option Nat} {L : Nat → Nat → Int64} {U : List (Nat × Nat)} {c t : Nat} {Js : Nat → Nat → Int} (hK : ∀ (J : Nat → Nat → Int) (j : Int), (∀ e : Nat, e ≠ a → e ≠ b → e ≠ d → J e = Js e) → cpP J a b d 48 → X G mL_ahead Q 89 [some (aR (some 0)), some (aI x), some (aI y), some (aR (some 361)), some (aR (some 362)), some (aR (some 363)), some (aR (some 364)), some (aR (some a)), some (aR (some b)), some (aR (some d)), some (aI p), some (aI j), o12, o13] [] (J, R, L, SH (sT ++ U), 0, c, t)) :
    ∀ (n : Nat) (J : Nat → Nat → Int) (j : Int), 0 ≤ j → (48 - j < n ∧ j ≤ 48) → (∀ e : Nat, e ≠ a → e ≠ b → e ≠ d → J e = Js e) → cpP J a b d j → X G mL_ahead Q 39 [some (aR (some 0)), some (aI x), some (aI y), some (aR (some 361)), some (aR (some 362)), some (aR (some 363)), some (aR (some 364)), some (aR (some a)), some (aR (some b)), some (aR (some d)), some (aI p), some (aI j), o12, o13] [] (J, R, L, SH (sT ++ U), 0, c, t) := by
  intro n
  induction n with
  | zero =>
    intros
    exfalso; omega
  | succ n ih =>
    intro J j h0 hj hfr hcp
    have hAl := hA
    obtain ⟨⟨g1, g2, g3⟩, g4, g5, g6⟩ := hAl
    have hcs := cpP_s hA ⟨by omega, by omega, by omega⟩ h0 hcp
    refine B_L_ahead_39 ?_
    try dsimp only
    skip
    refine ⟨fun c43_0 => ?_, fun c43_0 => ?_⟩
    · have e : j = 48 := by omega
      subst e
      exact hK J 48 hfr hcp
    · refine ⟨_, by first | exact (LH_app hS).2.1 | exact (LH_app hS).2.2.1 | exact (LH_app hS).2.2.2 | exact (LH_app hS).1 | exact (LH_app hH).2.1 | exact (LH_app hH).2.2.1 | exact (LH_app hH).2.2.2, ⟨by omega, by omega⟩, ?_⟩
      skip
      refine ⟨_, by first | exact (LH_app hS).2.1 | exact (LH_app hS).2.2.1 | exact (LH_app hS).2.2.2 | exact (LH_app hS).1 | exact (LH_app hH).2.1 | exact (LH_app hH).2.2.1 | exact (LH_app hH).2.2.2, ⟨by omega, by omega⟩, ?_⟩
      skip
      refine ⟨_, by first | exact (LH_app hS).2.1 | exact (LH_app hS).2.2.1 | exact (LH_app hS).2.2.2 | exact (LH_app hS).1 | exact (LH_app hH).2.1 | exact (LH_app hH).2.2.1 | exact (LH_app hH).2.2.2, ⟨by omega, by omega⟩, ?_⟩
      skip
      rw [u2_ne J (a := a) (x := 363) _ (fun q => by omega)]
      refine ⟨_, by first | exact (LH_app hS).2.1 | exact (LH_app hS).2.2.1 | exact (LH_app hS).2.2.2 | exact (LH_app hS).1 | exact (LH_app hH).2.1 | exact (LH_app hH).2.2.1 | exact (LH_app hH).2.2.2, ⟨by omega, by omega⟩, ?_⟩
      skip
      refine ⟨fun c70_0 => ?_, fun c70_0 => ?_⟩
      · refine B_L_ahead_83 ?_
        try dsimp only
        skip
        refine ⟨by (refine ⟨?_, ?_⟩ <;> omega), ?_⟩
        first
          | (refine ih _ (j + 1) (by omega) (by omega) (fun e e1 e2 e3 => ?_) (hcs.2 (by omega))
             rw [u2_off _ _ _ e3, u2_off _ _ _ e2, u2_off _ _ _ e1]
             exact hfr e e1 e2 e3)
          | (have hc1 := hcs.1
             rw [if_neg (by omega)] at hc1
             refine ih _ (j + 1) (by omega) (by omega) (fun e e1 e2 e3 => ?_) hc1
             rw [u2_off _ _ _ e2, u2_off _ _ _ e1]
             exact hfr e e1 e2 e3)
      · refine ⟨_, by first | exact (LH_app hS).2.1 | exact (LH_app hS).2.2.1 | exact (LH_app hS).2.2.2 | exact (LH_app hS).1 | exact (LH_app hH).2.1 | exact (LH_app hH).2.2.1 | exact (LH_app hH).2.2.2, ⟨by omega, by omega⟩, ?_⟩
        skip
        rw [u2_ne (u2 J a j.toNat (J 362 j.toNat)) (a := b) (x := 364) _ (fun q => by omega), u2_ne J (a := a) (x := 364) _ (fun q => by omega)]
        refine ⟨_, by first | exact (LH_app hS).2.1 | exact (LH_app hS).2.2.1 | exact (LH_app hS).2.2.2 | exact (LH_app hS).1 | exact (LH_app hH).2.1 | exact (LH_app hH).2.2.1 | exact (LH_app hH).2.2.2, ⟨by omega, by omega⟩, ?_⟩
        skip
        refine B_L_ahead_83 ?_
        try dsimp only
        skip
        refine ⟨by (refine ⟨?_, ?_⟩ <;> omega), ?_⟩
        first
          | (refine ih _ (j + 1) (by omega) (by omega) (fun e e1 e2 e3 => ?_) (hcs.2 (by omega))
             rw [u2_off _ _ _ e3, u2_off _ _ _ e2, u2_off _ _ _ e1]
             exact hfr e e1 e2 e3)
          | (have hc1 := hcs.1
             rw [if_neg (by omega)] at hc1
             refine ih _ (j + 1) (by omega) (by omega) (fun e e1 e2 e3 => ?_) hc1
             rw [u2_off _ _ _ e2, u2_off _ _ _ e1]
             exact hfr e e1 e2 e3)
theorem KH_p0 {G : amG} {Q : amR → amH → Prop} (hG : amG0 G) {sT : List (Nat × Nat)} {a b d N : Nat} (hS : LH (SH sT) 362 363 364) (hH : LH (SH sT) a b d) (hA : LA a b d) (hg : N ≤ a ∧ N ≤ b ∧ N ≤ d ∧ 365 ≤ N) {I0 : Nat → Nat → Int} {z : Row} {nv : Int} {zs : Nat → Row} {x y : Int} {p m w : Int} (hm : 1 ≤ m ∧ m ≤ 12) {c0 t0 : Nat} (hK : ∀ (J : Nat → Nat → Int) (R : Nat → Nat → Option Nat) (L : Nat → Nat → Int64) (U : List (Nat × Nat)) (c t : Nat) (i : Int), LV N I0 J R z nv zs → LZ J a b d (passN z m.toNat) → c0 ≤ c → t0 ≤ t → X G mL_ahead Q 157 [some (aR (some 0)), some (aI x), some (aI y), some (aR (some 361)), some (aR (some 362)), some (aR (some 363)), some (aR (some 364)), some (aR (some a)), some (aR (some b)), some (aR (some d)), some (aI p), some (aI m), some (aI w), some (aI i)] [] (J, R, L, SH (sT ++ U), 0, c, t)) :
    ∀ (n : Nat) (J : Nat → Nat → Int) (R : Nat → Nat → Option Nat) (L : Nat → Nat → Int64) (U : List (Nat × Nat)) (c t : Nat) (i : Int), 0 ≤ i → (m - i < n ∧ i ≤ m) → LV N I0 J R z nv zs → LZ J a b d (passN z i.toNat) → c0 + (m - i).toNat ≤ c → t0 + 64 * (m - i).toNat ≤ t → X G mL_ahead Q 134 [some (aR (some 0)), some (aI x), some (aI y), some (aR (some 361)), some (aR (some 362)), some (aR (some 363)), some (aR (some 364)), some (aR (some a)), some (aR (some b)), some (aR (some d)), some (aI p), some (aI m), some (aI w), some (aI i)] [] (J, R, L, SH (sT ++ U), 0, c, t) := by
  intro n
  induction n with
  | zero =>
    intros
    exfalso; omega
  | succ n ih =>
    intro J R L U c t i h0 hi hV hZ hc ht
    refine B_L_ahead_134 ?_
    try dsimp only
    skip
    refine ⟨fun c138_0 => ?_, fun c138_0 => ?_⟩
    · have e : i.toNat = m.toNat := by omega
      rw [e] at hZ
      exact hK J R L U c t i hV hZ (by omega) (by omega)
    · refine ⟨⟨by omega, by omega, Nat.le_of_ble_eq_true rfl⟩, trivial, ?_⟩
      have hWi := passN_inv hV.f.1 i.toNat (by have := hV.f.2.1; omega)
      refine K_turn hG (LH_app hH) hA hZ hWi.1 (by rw [hWi.2.1]; have := hV.f.2.1; omega) (fun U2 J2 R2 L2 c2 t2 hZ3 hfr hrr => ?_)
      have hla := ge_lt (LH_app (U := U) hH).2.1
      have hV2 := LV_law hV (M := N) ⟨Nat.le_refl _, hg.2.2.2⟩ (fun e he => ⟨hfr e (by omega) (by omega) (by omega) (by omega), hrr e (by omega)⟩)
      have hZ4 : LZ J2 a b d (passN z (i + 1).toNat) := by
        rw [show (i + 1).toNat = i.toNat + 1 by omega, passN_s]
        exact hZ3
      rw [← SH_app, List.append_assoc]
      refine af_N (cc := 1) (tt := 64) rfl rfl rfl ?_
      try dsimp only
      skip
      refine B_L_ahead_151 ?_
      try dsimp only
      skip
      refine ⟨by (refine ⟨?_, ?_⟩ <;> omega), ?_⟩
      exact ih J2 R2 L2 (U ++ U2) _ _ (i + 1) (by omega) (by omega) hV2 hZ4 (by omega) (by omega)
theorem KH_p1 {G : amG} {Q : amR → amH → Prop} (hG : amG0 G) {sT : List (Nat × Nat)} {a b d N : Nat} (hS : LH (SH sT) 362 363 364) (hH : LH (SH sT) a b d) (hA : LA a b d) (hg : N ≤ a ∧ N ≤ b ∧ N ≤ d ∧ 365 ≤ N) {I0 : Nat → Nat → Int} {z : Row} {nv : Int} {zs : Nat → Row} {x y : Int} {p k : Int} {o13 : Option amV} (hk : 0 ≤ k ∧ k < z 98) {c0 t0 : Nat} (hK : ∀ (J : Nat → Nat → Int) (R : Nat → Nat → Option Nat) (L : Nat → Nat → Int64) (U : List (Nat × Nat)) (c t : Nat) (i : Int), LV N I0 J R z nv zs → 0 ≤ i ∧ i ≤ 61 → arF z k.toNat 61 0 = (if 60 < i then -1 else i) → c0 ≤ c → t0 ≤ t → X G mL_ahead Q 254 [some (aR (some 0)), some (aI x), some (aI y), some (aR (some 361)), some (aR (some 362)), some (aR (some 363)), some (aR (some 364)), some (aR (some a)), some (aR (some b)), some (aR (some d)), some (aI p), some (aI k), some (aI i), o13] [] (J, R, L, SH (sT ++ U), 0, c, t)) :
    ∀ (n : Nat) (J : Nat → Nat → Int) (R : Nat → Nat → Option Nat) (L : Nat → Nat → Int64) (U : List (Nat × Nat)) (c t : Nat) (i : Int), 0 ≤ i → (61 - i < n ∧ i ≤ 61) → LV N I0 J R z nv zs → LZ J a b d (passN z i.toNat) → arF z k.toNat 61 0 = arF z k.toNat (61 - i.toNat) i.toNat → c0 + (61 - i.toNat) ≤ c → t0 + 64 * (61 - i.toNat) ≤ t → X G mL_ahead Q 194 [some (aR (some 0)), some (aI x), some (aI y), some (aR (some 361)), some (aR (some 362)), some (aR (some 363)), some (aR (some 364)), some (aR (some a)), some (aR (some b)), some (aR (some d)), some (aI p), some (aI k), some (aI i), o13] [] (J, R, L, SH (sT ++ U), 0, c, t) := by
  intro n
  induction n with
  | zero =>
    intros
    exfalso; omega
  | succ n ih =>
    intro J R L U c t i h0 hi hV hZ hr hc ht
    have hnn := hV.l.n
    have hWn := passN_inv hV.f.1 i.toNat (by have := hV.f.2.1; omega)
    have hk2 : k < passN z i.toNat 98 := by rw [hWn.2.2.1]; exact hk.2
    have hcL := hZ.t.c hk.1 hk2
    have hgL := hZ.t.g hk.1 hk2
    have e1 : s8 (tf (passN z i.toNat) k.toNat 1) = s8 (tf (passN z i.toNat) k.toNat 3) ↔ tf (passN z i.toNat) k.toNat 1 = tf (passN z i.toNat) k.toNat 3 := ⟨fun q => by rw [← bg_sm hcL, ← bg_sm hgL, q], fun q => by rw [q]⟩
    have hat : atG (passN z i.toNat) k.toNat = decide (tf (passN z i.toNat) k.toNat 4 ≠ 2 ∧ tf (passN z i.toNat) k.toNat 1 = tf (passN z i.toNat) k.toNat 3) := rfl
    refine B_L_ahead_194 ?_
    try dsimp only
    try simp (disch := omega) only [hZ.t.e1, hZ.t.e3, hZ.t.e4]
    refine ⟨fun c198_0 => ?_, fun c198_0 => ?_⟩
    · refine hK J R L U c t i hV ⟨h0, hi.2⟩ ?_ (by omega) (by omega)
      rw [hr]
      first
        | (rw [if_pos (by omega), show 61 - i.toNat = 0 by omega]
           rfl)
        | (rw [if_neg (by omega), show 61 - i.toNat = (60 - i.toNat) + 1 by omega, arF_s, if_pos (by rw [hat]; exact decide_eq_true ⟨by omega, by omega⟩)]
           omega)
    · refine ⟨by (refine ⟨?_, ?_⟩ <;> omega), ?_⟩
      refine ⟨by (refine ⟨?_, ?_⟩ <;> omega), ?_⟩
      refine ⟨_, by first | exact (LH_app hS).2.1 | exact (LH_app hS).2.2.1 | exact (LH_app hS).2.2.2 | exact (LH_app hS).1 | exact (LH_app hH).2.1 | exact (LH_app hH).2.2.1 | exact (LH_app hH).2.2.2, ⟨by omega, by omega⟩, ?_⟩
      try simp (disch := omega) only [hZ.t.e1, hZ.t.e3, hZ.t.e4]
      refine ⟨fun c212_0 => ?_, fun c212_0 => ?_⟩
      · refine B_L_ahead_238 ?_
        try dsimp only
        try simp (disch := omega) only [hZ.t.e1, hZ.t.e3, hZ.t.e4]
        refine ⟨⟨by omega, by omega, Nat.le_of_ble_eq_true rfl⟩, trivial, ?_⟩
        have hWi := passN_inv hV.f.1 i.toNat (by have := hV.f.2.1; omega)
        refine K_turn hG (LH_app hH) hA hZ hWi.1 (by rw [hWi.2.1]; have := hV.f.2.1; omega) (fun U2 J2 R2 L2 c2 t2 hZ3 hfr hrr => ?_)
        have hla := ge_lt (LH_app (U := U) hH).2.1
        have hV2 := LV_law hV (M := N) ⟨Nat.le_refl _, hg.2.2.2⟩ (fun e he => ⟨hfr e (by omega) (by omega) (by omega) (by omega), hrr e (by omega)⟩)
        have hZ4 : LZ J2 a b d (passN z (i + 1).toNat) := by
          rw [show (i + 1).toNat = i.toNat + 1 by omega, passN_s]
          exact hZ3
        rw [← SH_app, List.append_assoc]
        refine af_N (cc := 1) (tt := 64) rfl rfl rfl ?_
        try dsimp only
        try simp (disch := omega) only [hZ.t.e1, hZ.t.e3, hZ.t.e4]
        refine B_L_ahead_248 ?_
        try dsimp only
        try simp (disch := omega) only [hZ.t.e1, hZ.t.e3, hZ.t.e4]
        refine ⟨by (refine ⟨?_, ?_⟩ <;> omega), ?_⟩
        refine ih J2 R2 L2 (U ++ U2) _ _ (i + 1) (by omega) (by omega) hV2 hZ4 ?_ (by omega) (by omega)
        rw [hr, show 61 - i.toNat = (61 - (i + 1).toNat) + 1 by omega, arF_s, if_neg (by rw [hat]; exact fun q => absurd (of_decide_eq_true q) (by omega)), show (i + 1).toNat = i.toNat + 1 by omega]
      · refine ⟨by (refine ⟨?_, ?_⟩ <;> omega), ?_⟩
        refine ⟨by (refine ⟨?_, ?_⟩ <;> omega), ?_⟩
        refine ⟨_, by first | exact (LH_app hS).2.1 | exact (LH_app hS).2.2.1 | exact (LH_app hS).2.2.2 | exact (LH_app hS).1 | exact (LH_app hH).2.1 | exact (LH_app hH).2.2.1 | exact (LH_app hH).2.2.2, ⟨by omega, by omega⟩, ?_⟩
        try simp (disch := omega) only [hZ.t.e1, hZ.t.e3, hZ.t.e4]
        refine ⟨by (refine ⟨?_, ?_⟩ <;> omega), ?_⟩
        refine ⟨by (refine ⟨?_, ?_⟩ <;> omega), ?_⟩
        refine ⟨_, by first | exact (LH_app hS).2.1 | exact (LH_app hS).2.2.1 | exact (LH_app hS).2.2.2 | exact (LH_app hS).1 | exact (LH_app hH).2.1 | exact (LH_app hH).2.2.1 | exact (LH_app hH).2.2.2, ⟨by omega, by omega⟩, ?_⟩
        try simp (disch := omega) only [hZ.t.e1, hZ.t.e3, hZ.t.e4]
        refine ⟨fun c235_0 => ?_, fun c235_0 => ?_⟩
        · refine hK J R L U c t i hV ⟨h0, hi.2⟩ ?_ (by omega) (by omega)
          rw [hr]
          first
            | (rw [if_pos (by omega), show 61 - i.toNat = 0 by omega]
               rfl)
            | (rw [if_neg (by omega), show 61 - i.toNat = (60 - i.toNat) + 1 by omega, arF_s, if_pos (by rw [hat]; exact decide_eq_true ⟨by omega, by omega⟩)]
               omega)
        · refine B_L_ahead_238 ?_
          try dsimp only
          try simp (disch := omega) only [hZ.t.e1, hZ.t.e3, hZ.t.e4]
          refine ⟨⟨by omega, by omega, Nat.le_of_ble_eq_true rfl⟩, trivial, ?_⟩
          have hWi := passN_inv hV.f.1 i.toNat (by have := hV.f.2.1; omega)
          refine K_turn hG (LH_app hH) hA hZ hWi.1 (by rw [hWi.2.1]; have := hV.f.2.1; omega) (fun U2 J2 R2 L2 c2 t2 hZ3 hfr hrr => ?_)
          have hla := ge_lt (LH_app (U := U) hH).2.1
          have hV2 := LV_law hV (M := N) ⟨Nat.le_refl _, hg.2.2.2⟩ (fun e he => ⟨hfr e (by omega) (by omega) (by omega) (by omega), hrr e (by omega)⟩)
          have hZ4 : LZ J2 a b d (passN z (i + 1).toNat) := by
            rw [show (i + 1).toNat = i.toNat + 1 by omega, passN_s]
            exact hZ3
          rw [← SH_app, List.append_assoc]
          refine af_N (cc := 1) (tt := 64) rfl rfl rfl ?_
          try dsimp only
          try simp (disch := omega) only [hZ.t.e1, hZ.t.e3, hZ.t.e4]
          refine B_L_ahead_248 ?_
          try dsimp only
          try simp (disch := omega) only [hZ.t.e1, hZ.t.e3, hZ.t.e4]
          refine ⟨by (refine ⟨?_, ?_⟩ <;> omega), ?_⟩
          refine ih J2 R2 L2 (U ++ U2) _ _ (i + 1) (by omega) (by omega) hV2 hZ4 ?_ (by omega) (by omega)
          rw [hr, show 61 - i.toNat = (61 - (i + 1).toNat) + 1 by omega, arF_s, if_neg (by rw [hat]; exact fun q => absurd (of_decide_eq_true q) (by omega)), show (i + 1).toNat = i.toNat + 1 by omega]
theorem KH_2 {G : amG} {Q : amR → amH → Prop} (hG : amG0 G) {sT : List (Nat × Nat)} {a b d N : Nat} (hS : LH (SH sT) 362 363 364) (hH : LH (SH sT) a b d) (hA : LA a b d) (hg : N ≤ a ∧ N ≤ b ∧ N ≤ d ∧ 365 ≤ N) {I0 : Nat → Nat → Int} {z : Row} {nv : Int} {zs : Nat → Row} {x y : Int} {o11 o12 o13 : Option amV} (hQ : ∀ (J : Nat → Nat → Int) (R : Nat → Nat → Option Nat) (L : Nat → Nat → Int64) (U : List (Nat × Nat)) (c t : Nat), LV N I0 J R z nv zs → Q (Sum.inl (some (aI 1))) (J, R, L, SH (sT ++ U), 0, c, t)) {J : Nat → Nat → Int} {R : Nat → Nat → Option Nat} {L : Nat → Nat → Int64} {U : List (Nat × Nat)} {c t : Nat} (hV : LV N I0 J R z nv zs) : X G mL_ahead Q 21 [some (aR (some 0)), some (aI x), some (aI y), some (aR (some 361)), some (aR (some 362)), some (aR (some 363)), some (aR (some 364)), some (aR (some a)), some (aR (some b)), some (aR (some d)), some (aI (2 : Int)), o11, o12, o13] [] (J, R, L, SH (sT ++ U), 0, c, t) := by
  refine B_L_ahead_21 ?_
  try dsimp only
  refine ⟨fun _ => ?_, fun q => absurd (by decide) q⟩
  refine B_L_ahead_284 ?_
  try dsimp only
  exact ⟨Or.inr rfl, hQ J R L U c t hV⟩
theorem KH_1 {G : amG} {Q : amR → amH → Prop} (hG : amG0 G) {sT : List (Nat × Nat)} {a b d N : Nat} (hS : LH (SH sT) 362 363 364) (hH : LH (SH sT) a b d) (hA : LA a b d) (hg : N ≤ a ∧ N ≤ b ∧ N ≤ d ∧ 365 ≤ N) {I0 : Nat → Nat → Int} {z : Row} {nv : Int} {zs : Nat → Row} {x y : Int} (hx : 0 ≤ x ∧ x ≤ 2147483647) (hy : 0 ≤ y) {o11 o12 o13 : Option amV} (hQ : ∀ (J : Nat → Nat → Int) (R : Nat → Nat → Option Nat) (L : Nat → Nat → Int64) (U : List (Nat × Nat)) (c t : Nat), LV N I0 J R z nv zs → Q (Sum.inl (some (aI 1))) (J, R, L, SH (sT ++ U), 0, c, t)) {J : Nat → Nat → Int} {R : Nat → Nat → Option Nat} {L : Nat → Nat → Int64} {U : List (Nat × Nat)} {c t : Nat} (hV : LV N I0 J R z nv zs) (hc : 70 ≤ c) (ht : 4000 ≤ t) : X G mL_ahead Q 21 [some (aR (some 0)), some (aI x), some (aI y), some (aR (some 361)), some (aR (some 362)), some (aR (some 363)), some (aR (some 364)), some (aR (some a)), some (aR (some b)), some (aR (some d)), some (aI (1 : Int)), o11, o12, o13] [] (J, R, L, SH (sT ++ U), 0, c, t) := by
  have hnn := hV.l.n
  have hn0 := hV.b.2.1.1
  refine B_L_ahead_21 ?_
  try dsimp only
  try simp only [hV.l.d.n]
  refine ⟨fun c24_0 => ?_, fun c24_0 => ?_⟩
  · first
      | (exfalso; omega)
      | contradiction
  · refine ⟨_, by first | exact (LH_app hS).2.1 | exact (LH_app hS).2.2.1 | exact (LH_app hS).2.2.2 | exact (LH_app hS).1 | exact (LH_app hH).2.1 | exact (LH_app hH).2.2.1 | exact (LH_app hH).2.2.2, ⟨by omega, by omega⟩, ?_⟩
    try simp only [hV.l.d.n]
    refine ⟨fun c31_0 => ?_, fun c31_0 => ?_⟩
    · refine B_L_ahead_36 ?_
      try dsimp only
      try simp only [hV.l.d.n]
      refine KH_copy hG hS hH hA hg (I0 := I0) (z := z) (nv := nv) (zs := zs) (Js := J) (fun J3 j3 hfr3 hcp3 => ?_) 49 J 0 (by decide) (by decide) (fun _ _ _ _ => rfl) ⟨fun i hi => by omega, fun i hi => by omega, fun i hi => by omega⟩
      have hV3 : LV N I0 J3 R z nv zs := LV_law hV (M := N) ⟨Nat.le_refl _, hg.2.2.2⟩ (fun e he => ⟨hfr3 e (by omega) (by omega) (by omega), rfl⟩)
      have hZ3 : LZ J3 a b d (passN z 0) := LZ_copy hV3.l (fun i hi => hcp3.1 i (by omega) hi) (fun i hi => hcp3.2.1 i (by omega) hi) (fun i hi => hcp3.2.2 i (by omega) hi)
      refine B_L_ahead_89 ?_
      try dsimp only
      try simp only [hV3.l.d.n]
      refine ⟨fun c91_0 => ?_, fun c91_0 => ?_⟩
      · refine B_L_ahead_179 ?_
        try dsimp only
        try simp only [hV3.l.d.n]
        refine ⟨_, by first | exact (LH_app hS).2.1 | exact (LH_app hS).2.2.1 | exact (LH_app hS).2.2.2 | exact (LH_app hS).1 | exact (LH_app hH).2.1 | exact (LH_app hH).2.2.1 | exact (LH_app hH).2.2.2, ⟨by omega, by omega⟩, ?_⟩
        try simp only [hV3.l.d.n]
        refine ⟨⟨Nat.zero_le _, Nat.zero_le _, Nat.le_of_ble_eq_true rfl⟩, trivial, ?_⟩
        have hsh := sh_s0 hx (k := 4) (by decide)
        refine K_at hG hsh.1 ⟨by omega, by omega⟩ (fun r r0 r1 => ?_)
        refine af_I0 rfl rfl (by decide) ?_
        try dsimp only
        try simp only [hV3.l.d.n]
        refine B_L_ahead_189 ?_
        try dsimp only
        try simp only [hV3.l.d.n]
        refine KH_p1 hG hS hH hA hg (k := r) (c0 := 2) (t0 := 12) ⟨r0, r1⟩ (fun J4 R4 L4 U4 c4 t4 i4 hV4 hi4 hr4 hc4 ht4 => ?_) 62 J3 R L U _ _ 0 (by decide) (by decide) hV3 hZ3 rfl (by omega) (by omega)
        refine B_L_ahead_254 ?_
        try dsimp only
        skip
        refine ⟨⟨by omega, by omega, Nat.le_of_ble_eq_true rfl⟩, so0, ?_⟩
        refine D_arrivesIn hG hV4.k hV4.c hV4.f (fun q => absurd ⟨r0, r1⟩ q) (fun _ => QWx (fun J1 R1 c1 t1 j1 hRK1 hC1 => ?_))
        have hV5 := LV_cls hV4 j1 hRK1 hC1
        rw [hr4]
        refine af_I (cc := 1) (tt := 6) rfl rfl (by decide) ?_
        try dsimp only
        skip
        refine B_L_ahead_260 ?_
        try dsimp only
        skip
        refine ⟨fun c264_1 => ?_, fun c264_1 => ?_⟩
        · refine B_L_ahead_271 ?_
          try dsimp only
          skip
          refine B_L_ahead_273 ?_
          try dsimp only
          skip
          refine ⟨fun c273_3 => ?_, fun c273_3 => ?_⟩
          · refine B_L_ahead_278 ?_
            try dsimp only
            refine ⟨⟨by decide, by decide⟩, ?_⟩
            exact KH_2 hG hS hH hA hg hQ hV5
          · refine ⟨by first | exact Or.inl rfl | exact Or.inr rfl | trivial | exact Or.inl trivial | exact Or.inr trivial | omega, ?_⟩
            exfalso
            first
              | (rw [if_pos (by omega)] at *; omega)
              | (rw [if_neg (by omega)] at *; omega)
              | (split at * <;> omega)
        · refine B_L_ahead_273 ?_
          try dsimp only
          skip
          refine ⟨fun c273_2 => ?_, fun c273_2 => ?_⟩
          · refine B_L_ahead_278 ?_
            try dsimp only
            refine ⟨⟨by decide, by decide⟩, ?_⟩
            exact KH_2 hG hS hH hA hg hQ hV5
          · refine ⟨by first | exact Or.inl rfl | exact Or.inr rfl | trivial | exact Or.inl trivial | exact Or.inr trivial | omega, ?_⟩
            exfalso
            first
              | (rw [if_pos (by omega)] at *; omega)
              | (rw [if_neg (by omega)] at *; omega)
              | (split at * <;> omega)
      · first
          | (exfalso; omega)
          | exact absurd True.intro (by assumption)
          | (refine ⟨⟨Nat.zero_le _, Nat.zero_le _, Nat.le_of_ble_eq_true rfl⟩, trivial, ?_⟩
             have hsh := sh_s0 hx (k := 4) (by decide)
             refine K_at hG hsh.1 ⟨by omega, by omega⟩ (fun r r0 r1 => ?_)
             refine af_I0 rfl rfl (by decide) ?_
             try dsimp only
             try simp only [hV3.l.d.n]
             refine B_L_ahead_101 ?_
             try dsimp only
             try simp only [hV3.l.d.n]
             refine ⟨by (refine ⟨?_, ?_⟩ <;> omega), ?_⟩
             refine ⟨⟨Nat.zero_le _, Nat.zero_le _, Nat.le_of_ble_eq_true rfl⟩, trivial, ?_⟩
             have hsh := sh_s0 hx (k := 4) (by decide)
             refine K_at hG hsh.1 ⟨by omega, by omega⟩ (fun r r0 r1 => ?_)
             refine af_I0 rfl rfl (by decide) ?_
             try dsimp only
             try simp only [hV3.l.d.n]
             refine B_L_ahead_110 ?_
             try dsimp only
             try simp only [hV3.l.d.n]
             refine ⟨fun c115_2 => ?_, fun c115_2 => ?_⟩
             · refine B_L_ahead_125 ?_
               try dsimp only
               try simp only [hV3.l.d.n]
               refine ⟨by (refine ⟨?_, ?_⟩ <;> omega), ?_⟩
               refine B_L_ahead_129 ?_
               try dsimp only
               try simp only [hV3.l.d.n]
               exfalso
               omega
             · refine ⟨by (refine ⟨?_, ?_⟩ <;> omega), ?_⟩
               refine B_L_ahead_129 ?_
               try dsimp only
               try simp only [hV3.l.d.n]
               exfalso
               omega)
    · refine ⟨by first | exact Or.inl rfl | exact Or.inr rfl | trivial | exact Or.inl trivial | exact Or.inr trivial | omega, ?_⟩
      exact hQ J R L U c t hV
theorem KH_0 {G : amG} {Q : amR → amH → Prop} (hG : amG0 G) {sT : List (Nat × Nat)} {a b d N : Nat} (hS : LH (SH sT) 362 363 364) (hH : LH (SH sT) a b d) (hA : LA a b d) (hg : N ≤ a ∧ N ≤ b ∧ N ≤ d ∧ 365 ≤ N) {I0 : Nat → Nat → Int} {z : Row} {nv : Int} {zs : Nat → Row} {x y : Int} (hx : 0 ≤ x ∧ x ≤ 2147483647) (hy : 0 ≤ y) {o11 o12 o13 : Option amV} (hQ : ∀ (J : Nat → Nat → Int) (R : Nat → Nat → Option Nat) (L : Nat → Nat → Int64) (U : List (Nat × Nat)) (c t : Nat), LV N I0 J R z nv zs → Q (Sum.inl (some (aI 1))) (J, R, L, SH (sT ++ U), 0, c, t)) {J : Nat → Nat → Int} {R : Nat → Nat → Option Nat} {L : Nat → Nat → Int64} {U : List (Nat × Nat)} {c t : Nat} (hV : LV N I0 J R z nv zs) (hc : 100 ≤ c) (ht : 6000 ≤ t) : X G mL_ahead Q 21 [some (aR (some 0)), some (aI x), some (aI y), some (aR (some 361)), some (aR (some 362)), some (aR (some 363)), some (aR (some 364)), some (aR (some a)), some (aR (some b)), some (aR (some d)), some (aI (0 : Int)), o11, o12, o13] [] (J, R, L, SH (sT ++ U), 0, c, t) := by
  have hnn := hV.l.n
  have hn0 := hV.b.2.1.1
  refine B_L_ahead_21 ?_
  try dsimp only
  try simp only [hV.l.d.n]
  refine ⟨fun c24_0 => ?_, fun c24_0 => ?_⟩
  · first
      | (exfalso; omega)
      | contradiction
  · refine ⟨_, by first | exact (LH_app hS).2.1 | exact (LH_app hS).2.2.1 | exact (LH_app hS).2.2.2 | exact (LH_app hS).1 | exact (LH_app hH).2.1 | exact (LH_app hH).2.2.1 | exact (LH_app hH).2.2.2, ⟨by omega, by omega⟩, ?_⟩
    try simp only [hV.l.d.n]
    refine ⟨fun c31_0 => ?_, fun c31_0 => ?_⟩
    · refine B_L_ahead_36 ?_
      try dsimp only
      try simp only [hV.l.d.n]
      refine KH_copy hG hS hH hA hg (I0 := I0) (z := z) (nv := nv) (zs := zs) (Js := J) (fun J3 j3 hfr3 hcp3 => ?_) 49 J 0 (by decide) (by decide) (fun _ _ _ _ => rfl) ⟨fun i hi => by omega, fun i hi => by omega, fun i hi => by omega⟩
      have hV3 : LV N I0 J3 R z nv zs := LV_law hV (M := N) ⟨Nat.le_refl _, hg.2.2.2⟩ (fun e he => ⟨hfr3 e (by omega) (by omega) (by omega), rfl⟩)
      have hZ3 : LZ J3 a b d (passN z 0) := LZ_copy hV3.l (fun i hi => hcp3.1 i (by omega) hi) (fun i hi => hcp3.2.1 i (by omega) hi) (fun i hi => hcp3.2.2 i (by omega) hi)
      refine B_L_ahead_89 ?_
      try dsimp only
      skip
      refine ⟨fun c91_0 => ?_, fun c91_0 => ?_⟩
      · first
          | (exfalso; omega)
          | exact absurd rfl (by assumption)
          | contradiction
      · refine ⟨⟨Nat.zero_le _, Nat.zero_le _, Nat.le_of_ble_eq_true rfl⟩, trivial, ?_⟩
        refine K_at hG hx.1 (by decide) (fun r r0 r1 => ?_)
        refine af_I0 rfl rfl (by decide) ?_
        try dsimp only
        skip
        refine B_L_ahead_101 ?_
        try dsimp only
        skip
        refine ⟨by (refine ⟨?_, ?_⟩ <;> omega), ?_⟩
        refine ⟨⟨Nat.zero_le _, Nat.zero_le _, Nat.le_of_ble_eq_true rfl⟩, trivial, ?_⟩
        refine K_at hG hy (by decide) (fun w w0 w1 => ?_)
        refine af_I0 rfl rfl (by decide) ?_
        try dsimp only
        skip
        refine B_L_ahead_110 ?_
        try dsimp only
        skip
        refine ⟨fun c115_2 => ?_, fun c115_2 => ?_⟩
        · refine B_L_ahead_125 ?_
          try dsimp only
          skip
          refine ⟨by (refine ⟨?_, ?_⟩ <;> omega), ?_⟩
          refine B_L_ahead_129 ?_
          try dsimp only
          skip
          refine KH_p0 hG hS hH hA hg (m := 1 + r) (c0 := 72) (t0 := 4012) ⟨by omega, by omega⟩ (fun J4 R4 L4 U4 c4 t4 i4 hV4 hZ4 hc4 ht4 => ?_) 14 J3 R L U _ _ 0 (by decide) (by omega) hV3 hZ3 (by omega) (by omega)
          have hWi := passN_inv hV4.f.1 (1 + r).toNat (by have := hV4.f.2.1; omega)
          refine B_L_ahead_157 ?_
          try dsimp only
          skip
          refine ⟨⟨by omega, by omega, Nat.le_of_ble_eq_true rfl⟩, so0, ?_⟩
          refine D_ifPassed hG hV4.k hV4.c hV4.f (fun q => absurd (by omega) q) (fun _ => QWx (fun J1 R1 c1 t1 j1 hRK1 hC1 => ?_))
          have hV5 := LV_cls hV4 j1 hRK1 hC1
          have hZ5 := LZ_off (K := J1) hZ4 (fun e he => j1 e (by unfold LA at hA; omega))
          refine af_I (cc := 2) (tt := 12) rfl rfl (by decide) ?_
          try dsimp only
          skip
          refine B_L_ahead_165 ?_
          try dsimp only
          skip
          refine ⟨⟨Nat.zero_le _, Nat.zero_le _, Nat.le_of_ble_eq_true rfl⟩, trivial, ?_⟩
          refine K_counted hG (LH_app hH).2.1 (LH_app hH).2.2.2 hZ5.t hZ5.d hZ5.n hWi.1.1 (by omega) ?_
          refine af_I0 rfl rfl (by decide) ?_
          try dsimp only
          skip
          refine B_L_ahead_174 ?_
          try dsimp only
          skip
          refine ⟨fun c174_2 => ?_, fun c174_2 => ?_⟩
          · refine B_L_ahead_278 ?_
            try dsimp only
            refine ⟨⟨by decide, by decide⟩, ?_⟩
            exact KH_1 hG hS hH hA hg hx hy hQ hV5 (by omega) (by omega)
          · refine ⟨by first | exact Or.inl rfl | exact Or.inr rfl | trivial | exact Or.inl trivial | exact Or.inr trivial | omega, ?_⟩
            first
              | exact absurd True.intro (by assumption)
              | exact absurd rfl (by assumption)
              | (exfalso; omega)
        · refine ⟨by (refine ⟨?_, ?_⟩ <;> omega), ?_⟩
          refine B_L_ahead_129 ?_
          try dsimp only
          skip
          refine KH_p0 hG hS hH hA hg (m := 1 + r) (c0 := 72) (t0 := 4012) ⟨by omega, by omega⟩ (fun J4 R4 L4 U4 c4 t4 i4 hV4 hZ4 hc4 ht4 => ?_) 14 J3 R L U _ _ 0 (by decide) (by omega) hV3 hZ3 (by omega) (by omega)
          have hWi := passN_inv hV4.f.1 (1 + r).toNat (by have := hV4.f.2.1; omega)
          refine B_L_ahead_157 ?_
          try dsimp only
          skip
          refine ⟨⟨by omega, by omega, Nat.le_of_ble_eq_true rfl⟩, so0, ?_⟩
          refine D_ifPassed hG hV4.k hV4.c hV4.f (fun q => absurd (by omega) q) (fun _ => QWx (fun J1 R1 c1 t1 j1 hRK1 hC1 => ?_))
          have hV5 := LV_cls hV4 j1 hRK1 hC1
          have hZ5 := LZ_off (K := J1) hZ4 (fun e he => j1 e (by unfold LA at hA; omega))
          refine af_I (cc := 2) (tt := 12) rfl rfl (by decide) ?_
          try dsimp only
          skip
          refine B_L_ahead_165 ?_
          try dsimp only
          skip
          refine ⟨⟨Nat.zero_le _, Nat.zero_le _, Nat.le_of_ble_eq_true rfl⟩, trivial, ?_⟩
          refine K_counted hG (LH_app hH).2.1 (LH_app hH).2.2.2 hZ5.t hZ5.d hZ5.n hWi.1.1 (by omega) ?_
          refine af_I0 rfl rfl (by decide) ?_
          try dsimp only
          skip
          refine B_L_ahead_174 ?_
          try dsimp only
          skip
          refine ⟨fun c174_2 => ?_, fun c174_2 => ?_⟩
          · refine B_L_ahead_278 ?_
            try dsimp only
            refine ⟨⟨by decide, by decide⟩, ?_⟩
            exact KH_1 hG hS hH hA hg hx hy hQ hV5 (by omega) (by omega)
          · refine ⟨by first | exact Or.inl rfl | exact Or.inr rfl | trivial | exact Or.inl trivial | exact Or.inr trivial | omega, ?_⟩
            first
              | exact absurd True.intro (by assumption)
              | exact absurd rfl (by assumption)
              | (exfalso; omega)
    · refine ⟨by first | exact Or.inl rfl | exact Or.inr rfl | trivial | exact Or.inl trivial | exact Or.inr trivial | omega, ?_⟩
      exact hQ J R L U c t hV
/-- AHEAD: what would be agrees -/
theorem K_ahead {G : amG} {I : Nat → Nat → Int} {R : Nat → Nat → Option Nat} {L : Nat → Nat → Int64} {c t : Nat} {Q : amR → amH → Prop} (hG : amG0 G) {sT : List (Nat × Nat)} (hS : LH (SH sT) 362 363 364) {z : Row} {nv : Int} {zs : Nat → Row} (hV : LV (361 + sT.length) I I R z nv zs) {x y : Int} (hx : 0 ≤ x ∧ x ≤ 2147483647) (hy : 0 ≤ y) (hQ : ∀ (U : List (Nat × Nat)) (J : Nat → Nat → Int) (R' : Nat → Nat → Option Nat) (L' : Nat → Nat → Int64) (c t : Nat), LV (361 + sT.length) I J R' z nv zs → Q (Sum.inl (some (aI 1))) (J, R', L', SH (sT ++ U), 0, c, t)) : CT G sL_ahead [aR (some 0), aI x, aI y, aR (some 361), aR (some 362), aR (some 363), aR (some 364)] (I, R, L, SH sT, 0, c, t) Q := by
  refine CT_of ok_L_ahead hG (Nat.le_of_ble_eq_true rfl) ?_
  show X G mL_ahead Q 0 _ [] (I, R, L, SH sT, 0, 160, 10240)
  have h4 := ge_lt hS.2.2.2
  have hl := SH_len sT
  refine B_L_ahead_0 ?_
  try dsimp only
  refine ⟨⟨by decide, by decide, by decide, by decide, by first | trivial | rfl⟩, ?_⟩
  refine ⟨⟨by decide, by decide, by decide, by decide, by first | trivial | rfl⟩, ?_⟩
  refine ⟨⟨by decide, by decide, by decide, by decide, by first | trivial | rfl⟩, ?_⟩
  have e1 : (SH sT ++ [(20, 48)]).length = 361 + sT.length + 1 := by rw [List.length_append, hl]; rfl
  have e2 : (SH sT ++ [(20, 48)] ++ [(20, 48)]).length = 361 + sT.length + 2 := by rw [List.length_append, e1]; rfl
  have e3 : SH sT ++ [(20, 48)] ++ [(20, 48)] ++ [(20, 9)] = SH (sT ++ [(20, 48), (20, 48), (20, 9)]) := by
    rw [SH_app, List.append_assoc, List.append_assoc]
    rfl
  rw [e1, e2, e3, hl]
  have hH : LH (SH (sT ++ [(20, 48), (20, 48), (20, 9)])) (361 + sT.length) (361 + sT.length + 1) (361 + sT.length + 2) := by
    refine ⟨(LH_app hS).1, ?_, ?_, ?_⟩
    · rw [SH_ge (k := sT.length), List.getElem?_append_right (Nat.le_refl _), Nat.sub_self]
      rfl
    · rw [Nat.add_assoc, SH_ge (k := sT.length + 1), List.getElem?_append_right (by omega), Nat.add_sub_cancel_left]
      rfl
    · rw [Nat.add_assoc, SH_ge (k := sT.length + 2), List.getElem?_append_right (by omega), Nat.add_sub_cancel_left]
      rfl
  have hV2 : LV (361 + sT.length) I (u1 (u1 (u1 I (361 + sT.length) 0) (361 + sT.length + 1) 0) (361 + sT.length + 2) 0) (u1 (u1 (u1 R (361 + sT.length) none) (361 + sT.length + 1) none) (361 + sT.length + 2) none) z nv zs := LV_law hV (M := 361 + sT.length) ⟨Nat.le_refl _, by omega⟩ (fun a ha => ⟨by rw [u1_off _ _ (by omega), u1_off _ _ (by omega), u1_off _ _ (by omega)], by rw [u1_off _ _ (by omega), u1_off _ _ (by omega), u1_off _ _ (by omega)]⟩)
  have e4 : sT ++ [(20, 48), (20, 48), (20, 9)] = sT ++ [(20, 48), (20, 48), (20, 9)] ++ [] := (List.append_nil _).symm
  rw [e4]
  refine KH_0 hG (LH_app hS) hH (by unfold LA; omega) ⟨Nat.le_refl _, by omega, by omega, by omega⟩ hx hy (fun J3 R3 L3 U3 c3 t3 hV3 => ?_) hV2 (by omega) (by omega)
  rw [List.append_assoc]
  exact hQ _ J3 R3 L3 c3 t3 hV3
