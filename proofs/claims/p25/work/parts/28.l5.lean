/-! ===== the law: a turn: all march ===== -/
theorem marchZ_to {z : Row} {k : Nat} {v : Int} (h : mvC z k = v) : marchZ z k = uz z (99 + 8 * k + 1) v := by
  unfold marchZ
  rw [h]
theorem marchZ_self {z : Row} {k : Nat} (h : mvC z k = tf z k 1) : marchZ z k = z := by
  unfold marchZ
  rw [h]
  exact uz_self z _
theorem mv_r {z : Row} {k : Nat} {w t : Int} (h4 : tf z k 4 = 1) (hw : w = if tf z k 0 = 0 then 3 else 1) (ht : stT z (tf z k 1) w = t) : mvC z k = if t ≠ -1 ∧ tAt z t = -1 then t else tf z k 1 := by
  unfold mvC
  rw [if_pos h4, ← hw, ht]
theorem mv_2 {z : Row} {k : Nat} (h4 : tf z k 4 ≠ 1) (h : tf z k 4 = 2 ∨ tf z k 1 = tf z k 3) : mvC z k = tf z k 1 := by
  unfold mvC
  rw [if_neg h4, if_pos h]
theorem mv_0 {z : Row} {k : Nat} (h4 : tf z k 4 = 0) (h : tf z k 1 ≠ tf z k 3) {v : Int} (hv : nxN z (dF z (opM z k) (tf z k 3)) (tf z k 1) 4 = v) : mvC z k = if v = -1 then tf z k 1 else v := by
  unfold mvC
  rw [if_neg (by omega), if_neg (by omega), hv]
theorem nxN_w {z f : Row} {c w : Int} (hw : 0 ≤ w ∧ w < 4) : nxN z f c (4 - w).toNat = if stT z c w ≠ -1 ∧ f (stT z c w).toNat ≠ -1 ∧ f (stT z c w).toNat = f c.toNat - 1 ∧ tAt z (stT z c w) = -1 then stT z c w else nxN z f c (4 - (w + 1)).toNat := by
  have e : (4 - w).toNat = (4 - (w + 1)).toNat + 1 := by omega
  have e2 : (3 : Int) - ((4 - (w + 1)).toNat : Nat) = w := by omega
  rw [e]
  show (if stT z c (3 - ((4 - (w + 1)).toNat : Nat)) ≠ -1 ∧ _ then _ else _) = _
  rw [e2]
theorem KT_way {G : amG} {I : Nat → Nat → Int} {R : Nat → Nat → Option Nat} {L : Nat → Nat → Int64} {S : List (Nat × Nat)} {c t : Nat} {Q : amR → amH → Prop} (hG : amG0 G) {aT aO aD N : Nat} (hH : LH S aT aO aD) (hA : LA aT aO aD) {aF : Nat} (hF : S[aF]? = some (20, 64)) (hFN : N ≤ aF ∧ aF ≠ 361 ∧ aF ≠ aT ∧ aF ≠ aO ∧ aF ≠ aD) {lf : Int} {J : Nat → Nat → Int} {y : Row} {k : Int} (hZ : LQ N aT aO aD I J y) (hb : wfB y) (hk : 0 ≤ k ∧ k < y 98) (hJ : ∀ c : Int, is8 c → J aF c.toNat = d8 y (opM y k) (s8 (tf y k.toNat 3)) c) (h4 : tf y k.toNat 4 = 0) (hne : tf y k.toNat 1 ≠ tf y k.toNat 3) (hK : ∀ (J2 : Nat → Nat → Int) (o7 : Int) (o8 o9 : Option amV), LQ N aT aO aD I J2 (marchZ y k.toNat) → X G mL_turn Q 363 [some (aR (some 361)), some (aR (some aT)), some (aR (some aO)), some (aR (some aD)), some (aI lf), some (aR (some aF)), some (aI k), some (aI o7), o8, o9, none] [] (J2, R, L, S, 0, c, t)) :
    ∀ (n : Nat) (w : Int) (o9 : Option amV), 0 ≤ w → (4 - w < n ∧ w ≤ 4) → nxN y (dF y (opM y k) (tf y k.toNat 3)) (tf y k.toNat 1) 4 = nxN y (dF y (opM y k) (tf y k.toNat 3)) (tf y k.toNat 1) (4 - w).toNat → X G mL_turn Q 283 [some (aR (some 361)), some (aR (some aT)), some (aR (some aO)), some (aR (some aD)), some (aI lf), some (aR (some aF)), some (aI k), some (aI (s8 (tf y k.toNat 1))), some (aI w), o9, none] [] (J, R, L, S, 0, c, t) := by
  intro n
  induction n with
  | zero =>
    intros
    exfalso; omega
  | succ n ih =>
    intro w o9 h0 hw hx
    have hZn := hZ.1.n
    have hcL := hZ.1.t.c hk.1 hk.2
    have hgL := hZ.1.t.g hk.1 hk.2
    have hc8 := sm_in hcL
    have hcb := bg_sm hcL
    have hgb := bg_sm hgL
    have hc9 := hc8
    unfold is8 at hc9
    have hDb := fun t (ht : isC t) => dF_b (z := y) (op := opM y k) (inL_C hgL) (t := t) ht
    have hfc := hJ _ hc8
    unfold d8 at hfc
    rw [hgb, hcb] at hfc
    have hDc := hDb _ (inL_C hcL)
    refine B_L_turn_283 ?_
    try dsimp only
    refine ⟨fun c286_0 => ?_, fun c286_0 => ?_⟩
    · first
        | (have e0 : (4 - w).toNat = 0 := by omega
           rw [e0] at hx
           have hm := mv_0 h4 hne (v := -1) (by have e1 : (k.toNat : Int) = k := by omega
                                                rw [e1]; exact hx)
           rw [if_pos rfl] at hm
           refine hK J _ _ _ ?_
           rw [marchZ_self hm]
           exact hZ)
        | (have q9 : -1 ≤ tAt y (bg r) := (tA_lt y (bg r) (y 98).toNat).1
           rw [if_pos ⟨by omega, by split at hfc <;> split at hfr <;> omega, by split at hfc <;> split at hfr <;> omega, by omega⟩] at hnx
           have hm := mv_0 h4 hne (v := bg r) (by have e1 : (k.toNat : Int) = k := by omega
                                                  rw [e1]; exact hx.trans hnx)
           rw [if_neg (by omega)] at hm
           refine hK _ _ _ _ ?_
           rw [marchZ_to hm]
           have hl := LQ_wc hA hZ hk 1 (i := (8 * k + 1).toNat) (Or.inl rfl) (by omega) (bg_in r8)
           rw [sm_bg r8] at hl
           exact hl)
    · refine ⟨⟨Nat.zero_le _, Nat.zero_le _, Nat.le_of_ble_eq_true rfl⟩, trivial, ?_⟩
      refine K_step hG hH.1 hZ.1.h hc8 (by omega) (fun r hr => ?_)
      have hrb := sp8_b hr
      have hnx := nxN_w (z := y) (f := dF y (opM y k) (tf y k.toNat 3)) (c := tf y k.toNat 1) (w := w) (by omega)
      refine af_I0 rfl rfl (by decide) ?_
      try dsimp only
      refine B_L_turn_297 ?_
      try dsimp only
      refine ⟨fun c301_1 => ?_, fun c301_1 => ?_⟩
      · refine B_L_turn_357 ?_
        try dsimp only
        refine ⟨by (refine ⟨?_, ?_⟩ <;> omega), ?_⟩
        refine ih (w + 1) _ (by omega) (by omega) (hx.trans (hnx.trans (if_neg ?_)))
        first
          | (rintro ⟨q, _⟩
             rcases hr with ⟨_, p⟩ | ⟨p, _⟩
             · rw [hcb] at p; exact q p
             · have := p.1; omega)
          | (rintro ⟨q1, q2, q3, q4⟩
             split at hfc <;> split at hfr <;> omega)
      · have hr2 := sp8_ne hr (by omega)
        have r8 := hr2.1
        have r9 := r8
        unfold is8 at r9
        have hfr := hJ _ r8
        unfold d8 at hfr
        rw [hgb] at hfr
        have hDr := hDb _ (bg_C r8)
        have hst : stT y (tf y k.toNat 1) w = bg r := by rw [← hcb]; exact hr2.2
        rw [hst] at hnx
        have hbr := (bg_in r8).1
        refine ⟨_, by first | exact hF | exact hH.2.1, ⟨by omega, by omega⟩, ?_⟩
        refine ⟨fun c312_1 => ?_, fun c312_1 => ?_⟩
        · refine B_L_turn_357 ?_
          try dsimp only
          refine ⟨by (refine ⟨?_, ?_⟩ <;> omega), ?_⟩
          refine ih (w + 1) _ (by omega) (by omega) (hx.trans (hnx.trans (if_neg ?_)))
          first
            | (rintro ⟨q, _⟩
               rcases hr with ⟨_, p⟩ | ⟨p, _⟩
               · rw [hcb] at p; exact q p
               · have := p.1; omega)
            | (rintro ⟨q1, q2, q3, q4⟩
               split at hfc <;> split at hfr <;> omega)
        · refine ⟨_, by first | exact hF | exact hH.2.1, ⟨by omega, by omega⟩, ?_⟩
          refine ⟨_, by first | exact hF | exact hH.2.1, ⟨by omega, by omega⟩, ?_⟩
          refine ⟨by (refine ⟨?_, ?_⟩ <;> omega), ?_⟩
          refine ⟨fun c327_1 => ?_, fun c327_1 => ?_⟩
          · refine B_L_turn_357 ?_
            try dsimp only
            refine ⟨by (refine ⟨?_, ?_⟩ <;> omega), ?_⟩
            refine ih (w + 1) _ (by omega) (by omega) (hx.trans (hnx.trans (if_neg ?_)))
            first
              | (rintro ⟨q, _⟩
                 rcases hr with ⟨_, p⟩ | ⟨p, _⟩
                 · rw [hcb] at p; exact q p
                 · have := p.1; omega)
              | (rintro ⟨q1, q2, q3, q4⟩
                 split at hfc <;> split at hfr <;> omega)
          · refine ⟨⟨Nat.zero_le _, Nat.zero_le _, Nat.le_of_ble_eq_true rfl⟩, trivial, ?_⟩
            refine K_who hG hH.2.1 hH.2.2.2 hZ.1.t hZ.1.d.n hZ.1.n hb r8 ?_
            refine af_I0 rfl rfl (by decide) ?_
            try dsimp only
            refine B_L_turn_337 ?_
            try dsimp only
            refine ⟨fun c337_2 => ?_, fun c337_2 => ?_⟩
            · refine B_L_turn_343 ?_
              try dsimp only
              refine ⟨by (refine ⟨?_, ?_⟩ <;> omega), ?_⟩
              refine ⟨by (refine ⟨?_, ?_⟩ <;> omega), ?_⟩
              refine ⟨_, by first | exact hF | exact hH.2.1, ⟨by omega, by omega⟩, ?_⟩
              first
                | (have e0 : (4 - w).toNat = 0 := by omega
                   rw [e0] at hx
                   have hm := mv_0 h4 hne (v := -1) (by have e1 : (k.toNat : Int) = k := by omega
                                                        rw [e1]; exact hx)
                   rw [if_pos rfl] at hm
                   refine hK J _ _ _ ?_
                   rw [marchZ_self hm]
                   exact hZ)
                | (have q9 : -1 ≤ tAt y (bg r) := (tA_lt y (bg r) (y 98).toNat).1
                   rw [if_pos ⟨by omega, by split at hfc <;> split at hfr <;> omega, by split at hfc <;> split at hfr <;> omega, by omega⟩] at hnx
                   have hm := mv_0 h4 hne (v := bg r) (by have e1 : (k.toNat : Int) = k := by omega
                                                          rw [e1]; exact hx.trans hnx)
                   rw [if_neg (by omega)] at hm
                   refine hK _ _ _ _ ?_
                   rw [marchZ_to hm]
                   have hl := LQ_wc hA hZ hk 1 (i := (8 * k + 1).toNat) (Or.inl rfl) (by omega) (bg_in r8)
                   rw [sm_bg r8] at hl
                   exact hl)
            · refine B_L_turn_357 ?_
              try dsimp only
              refine ⟨by (refine ⟨?_, ?_⟩ <;> omega), ?_⟩
              refine ih (w + 1) _ (by omega) (by omega) (hx.trans (hnx.trans (if_neg ?_)))
              first
                | (rintro ⟨q, _⟩
                   rcases hr with ⟨_, p⟩ | ⟨p, _⟩
                   · rw [hcb] at p; exact q p
                   · have := p.1; omega)
                | (rintro ⟨q1, q2, q3, q4⟩
                   split at hfc <;> split at hfr <;> omega)
theorem KT_232r {G : amG} {I : Nat → Nat → Int} {R : Nat → Nat → Option Nat} {L : Nat → Nat → Int64} {S : List (Nat × Nat)} {c t : Nat} {Q : amR → amH → Prop} (hG : amG0 G) {aT aO aD N : Nat} (hH : LH S aT aO aD) (hA : LA aT aO aD) {aF : Nat} (hF : S[aF]? = some (20, 64)) (hFN : N ≤ aF ∧ aF ≠ 361 ∧ aF ≠ aT ∧ aF ≠ aO ∧ aF ≠ aD) {lf : Int} {J : Nat → Nat → Int} {y : Row} {k : Int} (hZ : LQ N aT aO aD I J y) (hb : wfB y) (hk : 0 ≤ k ∧ k < y 98) (h4 : tf y k.toNat 4 ≠ 0) {o7 : Int} {o8 o9 : Option amV} (hK : X G mL_turn Q 363 [some (aR (some 361)), some (aR (some aT)), some (aR (some aO)), some (aR (some aD)), some (aI lf), some (aR (some aF)), some (aI k), some (aI o7), o8, o9, none] [] (J, R, L, S, 0, c, t)) : X G mL_turn Q 232 [some (aR (some 361)), some (aR (some aT)), some (aR (some aO)), some (aR (some aD)), some (aI lf), some (aR (some aF)), some (aI k), some (aI o7), o8, o9, none] [] (J, R, L, S, 0, c, t) := by
  have hZn := hZ.1.n
  refine B_L_turn_232 ?_
  try dsimp only
  refine ⟨by (refine ⟨?_, ?_⟩ <;> omega), ?_⟩
  refine ⟨by (refine ⟨?_, ?_⟩ <;> omega), ?_⟩
  refine ⟨_, hH.2.1, ⟨by omega, by omega⟩, ?_⟩
  try simp (disch := omega) only [hZ.1.d.n, hZ.1.t.e0, hZ.1.t.e1, hZ.1.t.e2, hZ.1.t.e3, hZ.1.t.e4, hZ.1.t.e5, hZ.1.t.e6]
  refine ⟨fun _ => hK, fun q => ?_⟩
  exact absurd (by omega) h4
theorem LQ_pr {N aT aO aD aF : Nat} {I J : Nat → Nat → Int} {z : Row} (h : LQ N aT aO aD I J z) (hFN : N ≤ aF ∧ aF ≠ 361 ∧ aF ≠ aT ∧ aF ≠ aO ∧ aF ≠ aD) (hA : LA aT aO aD) (f : Row) : LQ N aT aO aD I (pr J aF f) z :=
  ⟨LZ_off h.1 (fun a ha => pr_off _ _ (by rcases ha with q | q | q | q <;> omega)), fun a h1 h2 h3 h4 => by rw [pr_off _ _ (by omega)]; exact h.2 a h1 h2 h3 h4⟩
theorem KT_232 {G : amG} {I : Nat → Nat → Int} {R : Nat → Nat → Option Nat} {L : Nat → Nat → Int64} {S : List (Nat × Nat)} {c t : Nat} {Q : amR → amH → Prop} (hG : amG0 G) {aT aO aD N : Nat} (hH : LH S aT aO aD) (hA : LA aT aO aD) {aF : Nat} (hF : S[aF]? = some (20, 64)) (hFN : N ≤ aF ∧ aF ≠ 361 ∧ aF ≠ aT ∧ aF ≠ aO ∧ aF ≠ aD) {lf : Int} {J : Nat → Nat → Int} {y : Row} {k : Int} (hZ : LQ N aT aO aD I J y) (hb : wfB y) (hk : 0 ≤ k ∧ k < y 98) (h4 : tf y k.toNat 4 ≠ 1) {o8 o9 : Option amV} (hK : ∀ (J2 : Nat → Nat → Int) (o7 : Int) (o8 o9 : Option amV), LQ N aT aO aD I J2 (marchZ y k.toNat) → X G mL_turn Q 363 [some (aR (some 361)), some (aR (some aT)), some (aR (some aO)), some (aR (some aD)), some (aI lf), some (aR (some aF)), some (aI k), some (aI o7), o8, o9, none] [] (J2, R, L, S, 0, c, t)) : X G mL_turn Q 232 [some (aR (some 361)), some (aR (some aT)), some (aR (some aO)), some (aR (some aD)), some (aI lf), some (aR (some aF)), some (aI k), some (aI (s8 (tf y k.toNat 1))), o8, o9, none] [] (J, R, L, S, 0, c, t) := by
  have hZn := hZ.1.n
  have hcL := hZ.1.t.c hk.1 hk.2
  have hgL := hZ.1.t.g hk.1 hk.2
  have hw := hb.t hk.1 hk.2
  have e1 : s8 (tf y k.toNat 1) = s8 (tf y k.toNat 3) ↔ tf y k.toNat 1 = tf y k.toNat 3 := ⟨fun q => by rw [← bg_sm hcL, ← bg_sm hgL, q], fun q => by rw [q]⟩
  refine B_L_turn_232 ?_
  try dsimp only
  try simp (disch := omega) only [hZ.1.d.n, hZ.1.t.e0, hZ.1.t.e1, hZ.1.t.e2, hZ.1.t.e3, hZ.1.t.e4, hZ.1.t.e5, hZ.1.t.e6]
  refine ⟨by (refine ⟨?_, ?_⟩ <;> omega), ?_⟩
  refine ⟨by (refine ⟨?_, ?_⟩ <;> omega), ?_⟩
  refine ⟨_, hH.2.1, ⟨by omega, by omega⟩, ?_⟩
  try simp (disch := omega) only [hZ.1.d.n, hZ.1.t.e0, hZ.1.t.e1, hZ.1.t.e2, hZ.1.t.e3, hZ.1.t.e4, hZ.1.t.e5, hZ.1.t.e6]
  refine ⟨fun c241_0 => ?_, fun c241_0 => ?_⟩
  · refine hK J _ _ _ ?_
    rw [marchZ_self (mv_2 h4 (by
      unfold wfT1 at hw
      omega))]
    exact hZ
  · refine ⟨by (refine ⟨?_, ?_⟩ <;> omega), ?_⟩
    refine ⟨by (refine ⟨?_, ?_⟩ <;> omega), ?_⟩
    refine ⟨_, hH.2.1, ⟨by omega, by omega⟩, ?_⟩
    try simp (disch := omega) only [hZ.1.d.n, hZ.1.t.e0, hZ.1.t.e1, hZ.1.t.e2, hZ.1.t.e3, hZ.1.t.e4, hZ.1.t.e5, hZ.1.t.e6]
    refine ⟨fun c255_0 => ?_, fun c255_0 => ?_⟩
    · refine B_L_turn_261 ?_
      try dsimp only
      try simp (disch := omega) only [hZ.1.d.n, hZ.1.t.e0, hZ.1.t.e1, hZ.1.t.e2, hZ.1.t.e3, hZ.1.t.e4, hZ.1.t.e5, hZ.1.t.e6]
      refine ⟨by (refine ⟨?_, ?_⟩ <;> omega), ?_⟩
      refine ⟨by (refine ⟨?_, ?_⟩ <;> omega), ?_⟩
      refine ⟨_, hH.2.1, ⟨by omega, by omega⟩, ?_⟩
      try simp (disch := omega) only [hZ.1.d.n, hZ.1.t.e0, hZ.1.t.e1, hZ.1.t.e2, hZ.1.t.e3, hZ.1.t.e4, hZ.1.t.e5, hZ.1.t.e6]
      refine ⟨⟨Nat.zero_le _, Nat.zero_le _, Nat.le_of_ble_eq_true rfl⟩, trivial, ?_⟩
      refine K_spread hG hH.1 hH.2.1 hH.2.2.2 hZ.1.t hZ.1.d.n hZ.1.n hb hZ.1.h hF ⟨hFN.2.1, hFN.2.2.1, hFN.2.2.2.2⟩ (sm_in hgL) (by omega) (fun f hf => ?_)
      refine af_N0 rfl rfl rfl ?_
      try dsimp only
      try simp (disch := omega) only [hZ.1.d.n, hZ.1.t.e0, hZ.1.t.e1, hZ.1.t.e2, hZ.1.t.e3, hZ.1.t.e4, hZ.1.t.e5, hZ.1.t.e6]
      refine B_L_turn_280 ?_
      try dsimp only
      try simp (disch := omega) only [hZ.1.d.n, hZ.1.t.e0, hZ.1.t.e1, hZ.1.t.e2, hZ.1.t.e3, hZ.1.t.e4, hZ.1.t.e5, hZ.1.t.e6]
      exact KT_way hG hH hA hF hFN (J := pr J aF f) (y := y) (k := k) (LQ_pr hZ hFN hA f) hb hk (fun c hc => by rw [pr_at]; exact hf c hc) (by omega) (by omega) hK 5 0 _ (by decide) (by omega) rfl
    · refine hK J _ _ _ ?_
      rw [marchZ_self (mv_2 h4 (by
        unfold wfT1 at hw
        omega))]
      exact hZ
theorem KT_march {G : amG} {I : Nat → Nat → Int} {R : Nat → Nat → Option Nat} {L : Nat → Nat → Int64} {S : List (Nat × Nat)} {c t : Nat} {Q : amR → amH → Prop} (hG : amG0 G) {aT aO aD N : Nat} (hH : LH S aT aO aD) (hA : LA aT aO aD) {aF : Nat} (hF : S[aF]? = some (20, 64)) (hFN : N ≤ aF ∧ aF ≠ 361 ∧ aF ≠ aT ∧ aF ≠ aO ∧ aF ≠ aD) {lf : Int} {z : Row} (hbz : wfB z) (hK : ∀ (J : Nat → Nat → Int) (k : Int) (o7 o8 o9 : Option amV), LQ N aT aO aD I J (mchN z (z 98).toNat) → X G mL_turn Q 369 [some (aR (some 361)), some (aR (some aT)), some (aR (some aO)), some (aR (some aD)), some (aI lf), some (aR (some aF)), some (aI k), o7, o8, o9, none] [] (J, R, L, S, 0, c, t)) :
    ∀ (n : Nat) (J : Nat → Nat → Int) (y : Row) (k : Int) (o7 o8 o9 : Option amV), 0 ≤ k → (z 98 - k < n ∧ k ≤ z 98) → y = mchN z k.toNat → LQ N aT aO aD I J y → X G mL_turn Q 151 [some (aR (some 361)), some (aR (some aT)), some (aR (some aO)), some (aR (some aD)), some (aI lf), some (aR (some aF)), some (aI k), o7, o8, o9, none] [] (J, R, L, S, 0, c, t) := by
  intro n
  induction n with
  | zero =>
    intros
    exfalso; omega
  | succ n ih =>
    intro J y k o7 o8 o9 h0 hk hy hZ
    have hm := mchN_inv hbz k.toNat (by omega)
    rw [← hy] at hm
    have hb : wfB y := hm.1
    have e98 : y 98 = z 98 := hm.2.1 98 (by omega)
    have hZn := hZ.1.n
    have hnext : ∀ (J2 : Nat → Nat → Int) (p7 : Int) (p8 p9 : Option amV), k < z 98 → LQ N aT aO aD I J2 (marchZ y k.toNat) → X G mL_turn Q 363 [some (aR (some 361)), some (aR (some aT)), some (aR (some aO)), some (aR (some aD)), some (aI lf), some (aR (some aF)), some (aI k), some (aI p7), p8, p9, none] [] (J2, R, L, S, 0, c, t) := fun J2 p7 p8 p9 hlt hZ2 => by
      refine B_L_turn_363 ?_
      try dsimp only
      refine ⟨by (refine ⟨?_, ?_⟩ <;> omega), ?_⟩
      refine ih J2 (marchZ y k.toNat) (k + 1) _ _ _ (by omega) (by omega) ?_ hZ2
      rw [show (k + 1).toNat = k.toNat + 1 by omega, mchN_s, ← hy]
    refine B_L_turn_151 ?_
    try dsimp only
    try simp (disch := omega) only [hZ.1.d.n, hZ.1.t.e0, hZ.1.t.e1, hZ.1.t.e2, hZ.1.t.e3, hZ.1.t.e4, hZ.1.t.e5, hZ.1.t.e6]
    refine ⟨_, by first | exact hH.2.1 | exact hH.2.2.2, ⟨by omega, by omega⟩, ?_⟩
    try simp (disch := omega) only [hZ.1.d.n, hZ.1.t.e0, hZ.1.t.e1, hZ.1.t.e2, hZ.1.t.e3, hZ.1.t.e4, hZ.1.t.e5, hZ.1.t.e6]
    refine ⟨fun c156_0 => ?_, fun c156_0 => ?_⟩
    · have e : k.toNat = (z 98).toNat := by omega
      rw [hy, e] at hZ
      exact hK J k _ _ _ hZ
    · have hlt : k < y 98 := by omega
      have hw := hb.t h0 hlt
      unfold wfT1 at hw
      have hcL := hZ.1.t.c h0 hlt
      have hc8 := sm_in hcL
      have hcb := bg_sm hcL
      refine ⟨by (refine ⟨?_, ?_⟩ <;> omega), ?_⟩
      refine ⟨by (refine ⟨?_, ?_⟩ <;> omega), ?_⟩
      refine ⟨_, by first | exact hH.2.1 | exact hH.2.2.2, ⟨by omega, by omega⟩, ?_⟩
      try simp (disch := omega) only [hZ.1.d.n, hZ.1.t.e0, hZ.1.t.e1, hZ.1.t.e2, hZ.1.t.e3, hZ.1.t.e4, hZ.1.t.e5, hZ.1.t.e6]
      refine ⟨by (refine ⟨?_, ?_⟩ <;> omega), ?_⟩
      refine ⟨by (refine ⟨?_, ?_⟩ <;> omega), ?_⟩
      refine ⟨_, by first | exact hH.2.1 | exact hH.2.2.2, ⟨by omega, by omega⟩, ?_⟩
      try simp (disch := omega) only [hZ.1.d.n, hZ.1.t.e0, hZ.1.t.e1, hZ.1.t.e2, hZ.1.t.e3, hZ.1.t.e4, hZ.1.t.e5, hZ.1.t.e6]
      refine ⟨fun c180_0 => ?_, fun c180_0 => ?_⟩
      · exact KT_232 hG hH hA hF hFN hZ hb ⟨h0, hlt⟩ (by omega) (fun J2 o7 o8 o9 q => hnext J2 o7 o8 o9 (by omega) q)
      · refine ⟨by (refine ⟨?_, ?_⟩ <;> omega), ?_⟩
        refine ⟨_, by first | exact hH.2.1 | exact hH.2.2.2, ⟨by omega, by omega⟩, ?_⟩
        try simp (disch := omega) only [hZ.1.d.n, hZ.1.t.e0, hZ.1.t.e1, hZ.1.t.e2, hZ.1.t.e3, hZ.1.t.e4, hZ.1.t.e5, hZ.1.t.e6]
        refine ⟨fun c192_0 => ?_, fun c192_0 => ?_⟩
        · refine B_L_turn_199 ?_
          try dsimp only
          try simp (disch := omega) only [hZ.1.d.n, hZ.1.t.e0, hZ.1.t.e1, hZ.1.t.e2, hZ.1.t.e3, hZ.1.t.e4, hZ.1.t.e5, hZ.1.t.e6]
          have hwy : (1 : Int) = if tf y k.toNat 0 = 0 then 3 else 1 := (if_neg (by omega)).symm
          refine B_L_turn_200 ?_
          try dsimp only
          try simp (disch := omega) only [hZ.1.d.n, hZ.1.t.e0, hZ.1.t.e1, hZ.1.t.e2, hZ.1.t.e3, hZ.1.t.e4, hZ.1.t.e5, hZ.1.t.e6]
          refine ⟨⟨Nat.zero_le _, Nat.zero_le _, Nat.le_of_ble_eq_true rfl⟩, trivial, ?_⟩
          refine K_step hG hH.1 hZ.1.h hc8 (by decide) (fun r hr => ?_)
          have hrb := sp8_b hr
          refine af_I0 rfl rfl (by decide) ?_
          try dsimp only
          try simp (disch := omega) only [hZ.1.d.n, hZ.1.t.e0, hZ.1.t.e1, hZ.1.t.e2, hZ.1.t.e3, hZ.1.t.e4, hZ.1.t.e5, hZ.1.t.e6]
          refine B_L_turn_204 ?_
          try dsimp only
          try simp (disch := omega) only [hZ.1.d.n, hZ.1.t.e0, hZ.1.t.e1, hZ.1.t.e2, hZ.1.t.e3, hZ.1.t.e4, hZ.1.t.e5, hZ.1.t.e6]
          refine ⟨fun c208_3 => ?_, fun c208_3 => ?_⟩
          · first
              | (have hm2 : mvC y k.toNat = tf y k.toNat 1 := by
                   have q9 : -1 ≤ tAt y (bg r) := (tA_lt y (bg r) (y 98).toNat).1
                   rcases hr with ⟨p1, p2⟩ | ⟨p1, p2⟩
                   · rw [hcb] at p2
                     exact (mv_r (by omega) hwy p2).trans (if_neg (fun q => q.1 rfl))
                   · rw [hcb] at p2
                     exact (mv_r (by omega) hwy p2).trans (if_neg (by first | omega | (have := p1.1; omega)))
                 exact KT_232r hG hH hA hF hFN hZ hb ⟨h0, hlt⟩ (by omega) (hnext J _ _ _ (by omega) (by rw [marchZ_self hm2]; exact hZ)))
              | (have hm2 : mvC y k.toNat = bg r := by
                   have q9 : -1 ≤ tAt y (bg r) := (tA_lt y (bg r) (y 98).toNat).1
                   have q8 := (bg_in r8).1
                   have p2 := hr2.2
                   rw [hcb] at p2
                   exact (mv_r (by omega) hwy p2).trans (if_pos ⟨by omega, by omega⟩)
                 have hl := LQ_wc hA hZ ⟨h0, hlt⟩ 1 (i := (8 * k + 1).toNat) (Or.inl rfl) (by omega) (bg_in r8)
                 rw [sm_bg r8, ← marchZ_to hm2] at hl
                 exact KT_232r hG hH hA hF hFN hl (marchZ_B (by omega) hb) ⟨h0, by rw [marchZ_off (by omega) (by omega)]; exact hlt⟩ (by rw [marchZ_t (by decide), if_neg (by omega)]; omega) (hnext _ _ _ _ (by omega) hl))
          · have hr2 := sp8_ne hr (by omega)
            have r8 := hr2.1
            refine ⟨⟨Nat.zero_le _, Nat.zero_le _, Nat.le_of_ble_eq_true rfl⟩, trivial, ?_⟩
            refine K_who hG hH.2.1 hH.2.2.2 hZ.1.t hZ.1.d.n hZ.1.n hb r8 ?_
            refine af_I0 rfl rfl (by decide) ?_
            try dsimp only
            try simp (disch := omega) only [hZ.1.d.n, hZ.1.t.e0, hZ.1.t.e1, hZ.1.t.e2, hZ.1.t.e3, hZ.1.t.e4, hZ.1.t.e5, hZ.1.t.e6]
            refine B_L_turn_218 ?_
            try dsimp only
            try simp (disch := omega) only [hZ.1.d.n, hZ.1.t.e0, hZ.1.t.e1, hZ.1.t.e2, hZ.1.t.e3, hZ.1.t.e4, hZ.1.t.e5, hZ.1.t.e6]
            refine ⟨fun c218_4 => ?_, fun c218_4 => ?_⟩
            · first
                | (have hm2 : mvC y k.toNat = tf y k.toNat 1 := by
                     have q9 : -1 ≤ tAt y (bg r) := (tA_lt y (bg r) (y 98).toNat).1
                     rcases hr with ⟨p1, p2⟩ | ⟨p1, p2⟩
                     · rw [hcb] at p2
                       exact (mv_r (by omega) hwy p2).trans (if_neg (fun q => q.1 rfl))
                     · rw [hcb] at p2
                       exact (mv_r (by omega) hwy p2).trans (if_neg (by first | omega | (have := p1.1; omega)))
                   exact KT_232r hG hH hA hF hFN hZ hb ⟨h0, hlt⟩ (by omega) (hnext J _ _ _ (by omega) (by rw [marchZ_self hm2]; exact hZ)))
                | (have hm2 : mvC y k.toNat = bg r := by
                     have q9 : -1 ≤ tAt y (bg r) := (tA_lt y (bg r) (y 98).toNat).1
                     have q8 := (bg_in r8).1
                     have p2 := hr2.2
                     rw [hcb] at p2
                     exact (mv_r (by omega) hwy p2).trans (if_pos ⟨by omega, by omega⟩)
                   have hl := LQ_wc hA hZ ⟨h0, hlt⟩ 1 (i := (8 * k + 1).toNat) (Or.inl rfl) (by omega) (bg_in r8)
                   rw [sm_bg r8, ← marchZ_to hm2] at hl
                   exact KT_232r hG hH hA hF hFN hl (marchZ_B (by omega) hb) ⟨h0, by rw [marchZ_off (by omega) (by omega)]; exact hlt⟩ (by rw [marchZ_t (by decide), if_neg (by omega)]; omega) (hnext _ _ _ _ (by omega) hl))
            · refine ⟨by (refine ⟨?_, ?_⟩ <;> omega), ?_⟩
              refine ⟨by (refine ⟨?_, ?_⟩ <;> omega), ?_⟩
              refine ⟨_, by first | exact hH.2.1 | exact hH.2.2.2, ⟨by omega, by omega⟩, ?_⟩
              try simp (disch := omega) only [hZ.1.d.n, hZ.1.t.e0, hZ.1.t.e1, hZ.1.t.e2, hZ.1.t.e3, hZ.1.t.e4, hZ.1.t.e5, hZ.1.t.e6]
              first
                | (have hm2 : mvC y k.toNat = tf y k.toNat 1 := by
                     have q9 : -1 ≤ tAt y (bg r) := (tA_lt y (bg r) (y 98).toNat).1
                     rcases hr with ⟨p1, p2⟩ | ⟨p1, p2⟩
                     · rw [hcb] at p2
                       exact (mv_r (by omega) hwy p2).trans (if_neg (fun q => q.1 rfl))
                     · rw [hcb] at p2
                       exact (mv_r (by omega) hwy p2).trans (if_neg (by first | omega | (have := p1.1; omega)))
                   exact KT_232r hG hH hA hF hFN hZ hb ⟨h0, hlt⟩ (by omega) (hnext J _ _ _ (by omega) (by rw [marchZ_self hm2]; exact hZ)))
                | (have hm2 : mvC y k.toNat = bg r := by
                     have q9 : -1 ≤ tAt y (bg r) := (tA_lt y (bg r) (y 98).toNat).1
                     have q8 := (bg_in r8).1
                     have p2 := hr2.2
                     rw [hcb] at p2
                     exact (mv_r (by omega) hwy p2).trans (if_pos ⟨by omega, by omega⟩)
                   have hl := LQ_wc hA hZ ⟨h0, hlt⟩ 1 (i := (8 * k + 1).toNat) (Or.inl rfl) (by omega) (bg_in r8)
                   rw [sm_bg r8, ← marchZ_to hm2] at hl
                   exact KT_232r hG hH hA hF hFN hl (marchZ_B (by omega) hb) ⟨h0, by rw [marchZ_off (by omega) (by omega)]; exact hlt⟩ (by rw [marchZ_t (by decide), if_neg (by omega)]; omega) (hnext _ _ _ _ (by omega) hl))
        · have hwy : (3 : Int) = if tf y k.toNat 0 = 0 then 3 else 1 := (if_pos (by omega)).symm
          refine B_L_turn_200 ?_
          try dsimp only
          try simp (disch := omega) only [hZ.1.d.n, hZ.1.t.e0, hZ.1.t.e1, hZ.1.t.e2, hZ.1.t.e3, hZ.1.t.e4, hZ.1.t.e5, hZ.1.t.e6]
          refine ⟨⟨Nat.zero_le _, Nat.zero_le _, Nat.le_of_ble_eq_true rfl⟩, trivial, ?_⟩
          refine K_step hG hH.1 hZ.1.h hc8 (by decide) (fun r hr => ?_)
          have hrb := sp8_b hr
          refine af_I0 rfl rfl (by decide) ?_
          try dsimp only
          try simp (disch := omega) only [hZ.1.d.n, hZ.1.t.e0, hZ.1.t.e1, hZ.1.t.e2, hZ.1.t.e3, hZ.1.t.e4, hZ.1.t.e5, hZ.1.t.e6]
          refine B_L_turn_204 ?_
          try dsimp only
          try simp (disch := omega) only [hZ.1.d.n, hZ.1.t.e0, hZ.1.t.e1, hZ.1.t.e2, hZ.1.t.e3, hZ.1.t.e4, hZ.1.t.e5, hZ.1.t.e6]
          refine ⟨fun c208_2 => ?_, fun c208_2 => ?_⟩
          · have hm2 : mvC y k.toNat = tf y k.toNat 1 := by
              have q9 : -1 ≤ tAt y (bg r) := (tA_lt y (bg r) (y 98).toNat).1
              rcases hr with ⟨p1, p2⟩ | ⟨p1, p2⟩
              · rw [hcb] at p2
                exact (mv_r (by omega) hwy p2).trans (if_neg (fun q => q.1 rfl))
              · rw [hcb] at p2
                exact (mv_r (by omega) hwy p2).trans (if_neg (by first | omega | (have := p1.1; omega)))
            exact KT_232r hG hH hA hF hFN hZ hb ⟨h0, hlt⟩ (by omega) (hnext J _ _ _ (by omega) (by rw [marchZ_self hm2]; exact hZ))
          · have hr2 := sp8_ne hr (by omega)
            have r8 := hr2.1
            refine ⟨⟨Nat.zero_le _, Nat.zero_le _, Nat.le_of_ble_eq_true rfl⟩, trivial, ?_⟩
            refine K_who hG hH.2.1 hH.2.2.2 hZ.1.t hZ.1.d.n hZ.1.n hb r8 ?_
            refine af_I0 rfl rfl (by decide) ?_
            try dsimp only
            try simp (disch := omega) only [hZ.1.d.n, hZ.1.t.e0, hZ.1.t.e1, hZ.1.t.e2, hZ.1.t.e3, hZ.1.t.e4, hZ.1.t.e5, hZ.1.t.e6]
            refine B_L_turn_218 ?_
            try dsimp only
            try simp (disch := omega) only [hZ.1.d.n, hZ.1.t.e0, hZ.1.t.e1, hZ.1.t.e2, hZ.1.t.e3, hZ.1.t.e4, hZ.1.t.e5, hZ.1.t.e6]
            refine ⟨fun c218_3 => ?_, fun c218_3 => ?_⟩
            · first
                | (have hm2 : mvC y k.toNat = tf y k.toNat 1 := by
                     have q9 : -1 ≤ tAt y (bg r) := (tA_lt y (bg r) (y 98).toNat).1
                     rcases hr with ⟨p1, p2⟩ | ⟨p1, p2⟩
                     · rw [hcb] at p2
                       exact (mv_r (by omega) hwy p2).trans (if_neg (fun q => q.1 rfl))
                     · rw [hcb] at p2
                       exact (mv_r (by omega) hwy p2).trans (if_neg (by first | omega | (have := p1.1; omega)))
                   exact KT_232r hG hH hA hF hFN hZ hb ⟨h0, hlt⟩ (by omega) (hnext J _ _ _ (by omega) (by rw [marchZ_self hm2]; exact hZ)))
                | (have hm2 : mvC y k.toNat = bg r := by
                     have q9 : -1 ≤ tAt y (bg r) := (tA_lt y (bg r) (y 98).toNat).1
                     have q8 := (bg_in r8).1
                     have p2 := hr2.2
                     rw [hcb] at p2
                     exact (mv_r (by omega) hwy p2).trans (if_pos ⟨by omega, by omega⟩)
                   have hl := LQ_wc hA hZ ⟨h0, hlt⟩ 1 (i := (8 * k + 1).toNat) (Or.inl rfl) (by omega) (bg_in r8)
                   rw [sm_bg r8, ← marchZ_to hm2] at hl
                   exact KT_232r hG hH hA hF hFN hl (marchZ_B (by omega) hb) ⟨h0, by rw [marchZ_off (by omega) (by omega)]; exact hlt⟩ (by rw [marchZ_t (by decide), if_neg (by omega)]; omega) (hnext _ _ _ _ (by omega) hl))
            · refine ⟨by (refine ⟨?_, ?_⟩ <;> omega), ?_⟩
              refine ⟨by (refine ⟨?_, ?_⟩ <;> omega), ?_⟩
              refine ⟨_, by first | exact hH.2.1 | exact hH.2.2.2, ⟨by omega, by omega⟩, ?_⟩
              try simp (disch := omega) only [hZ.1.d.n, hZ.1.t.e0, hZ.1.t.e1, hZ.1.t.e2, hZ.1.t.e3, hZ.1.t.e4, hZ.1.t.e5, hZ.1.t.e6]
              first
                | (have hm2 : mvC y k.toNat = tf y k.toNat 1 := by
                     have q9 : -1 ≤ tAt y (bg r) := (tA_lt y (bg r) (y 98).toNat).1
                     rcases hr with ⟨p1, p2⟩ | ⟨p1, p2⟩
                     · rw [hcb] at p2
                       exact (mv_r (by omega) hwy p2).trans (if_neg (fun q => q.1 rfl))
                     · rw [hcb] at p2
                       exact (mv_r (by omega) hwy p2).trans (if_neg (by first | omega | (have := p1.1; omega)))
                   exact KT_232r hG hH hA hF hFN hZ hb ⟨h0, hlt⟩ (by omega) (hnext J _ _ _ (by omega) (by rw [marchZ_self hm2]; exact hZ)))
                | (have hm2 : mvC y k.toNat = bg r := by
                     have q9 : -1 ≤ tAt y (bg r) := (tA_lt y (bg r) (y 98).toNat).1
                     have q8 := (bg_in r8).1
                     have p2 := hr2.2
                     rw [hcb] at p2
                     exact (mv_r (by omega) hwy p2).trans (if_pos ⟨by omega, by omega⟩)
                   have hl := LQ_wc hA hZ ⟨h0, hlt⟩ 1 (i := (8 * k + 1).toNat) (Or.inl rfl) (by omega) (bg_in r8)
                   rw [sm_bg r8, ← marchZ_to hm2] at hl
                   exact KT_232r hG hH hA hF hFN hl (marchZ_B (by omega) hb) ⟨h0, by rw [marchZ_off (by omega) (by omega)]; exact hlt⟩ (by rw [marchZ_t (by decide), if_neg (by omega)]; omega) (hnext _ _ _ _ (by omega) hl))
