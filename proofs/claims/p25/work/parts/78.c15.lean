variable {sT : List (Nat × Nat)}
/-! ===== the class: a turn's parts ===== -/
/-- only a war's own numbers have changed, not its orders -/
def FO (I J : Nat → Nat → Int) (b : Nat) : Prop := ∀ c : Nat, c < b ∨ b + 19 ≤ c → J c = I c
theorem FO_refl (I : Nat → Nat → Int) (b : Nat) : FO I I b := fun _ _ => rfl
theorem FO_u2 {I J : Nat → Nat → Int} {b : Nat} (h : FO I J b) {a : Nat} (k : Nat) (v : Int) (ha : b ≤ a ∧ a < b + 19) : FO I (u2 J a k v) b := fun c hc => by
  rw [u2_off _ _ _ (by omega)]
  exact h c hc
theorem FO_trans {I J K : Nat → Nat → Int} {b : Nat} (h : FO I J b) (h2 : FO J K b) : FO I K b := fun c hc => by rw [h2 c hc, h c hc]
theorem FO_oc {I J : Nat → Nat → Int} {b : Nat} (h : FO I J b) (n : Nat) : oc J b n = oc I b n := oc_congr (fun k hk => by
  unfold odC
  rw [h _ (by omega)])
theorem wLs {I : Nat → Nat → Int} {b : Nat} {z : Row} (h : WV I b z) {s : Int} (hs : 0 ≤ s ∧ s ≤ 1) : I (b + 6) s.toNat = z (319 + s).toNat := by
  rcases (by omega : s = 0 ∨ s = 1) with e | e <;> subst e
  · exact wL0 h
  · exact wL1 h
theorem fA_B {z : Row} (hb : wfB z) (n : Nat) : wfB (fA z n) := by
  obtain ⟨hh, hn, ht, hu, hg, hs⟩ := hb
  obtain ⟨i1, i2, i3⟩ := fA_inv (z := z) n
  have h98 := i1 98 (Or.inl (by decide))
  obtain ⟨a1, a2, a3⟩ := wf_off (y := fA z n) (fun i hi => i1 i (Or.inl hi)) hh hn hg
  refine ⟨a1, a2, fA_T ht hn n, wfU_of h98 (fun l hl => i2 l 1 (by decide) (by decide)) (fun l hl q => ?_) hu, a3, fun l hl => ?_⟩
  · rw [i2 l 4 (by decide) (by decide)] at q; exact q
  · rw [h98] at hl
    rw [i2 l 4 (by decide) (by decide), i2 l 2 (by decide) (by decide), i2 l 5 (by decide) (by decide)]
    exact hs l hl
theorem D_stepBack {G : amG} {I : Nat → Nat → Int} {R : Nat → Nat → Option Nat} {L : Nat → Nat → Int64} {x c t : Nat} {Q : amR → amH → Prop} (hG : amG0 G) {b : Nat} (hB : wb b) (hRW : RW R b) {z : Row} (hW : WV I b z) (hb : wfB z) {k : Int} (hk : 0 ≤ k ∧ k < z 98) (hst : tf z k.toNat 4 = 1) (hQ : ∀ J : Nat → Nat → Int, FO I J b → WV J b (marchZ z k.toNat) → Q (Sum.inl none) (J, R, L, (SH sT), x, 0, 0)) : CT G sX2_stepBack [aR (some b), aR (some (b + 7 + k.toNat))] (I, R, L, (SH sT), x, c, t) Q := by
  refine CT_of ok_X2_stepBack hG (Nat.le_of_ble_eq_true rfl) ?_
  show X G mX2_stepBack Q 0 _ [] (I, R, L, (SH sT), x, 0, 0)
  have hn1 := hb.2.1.1
  have hn2 := hb.2.1.2
  have hb1 := wb_le hB
  have hT := hb.2.2.1 k.toNat (by omega)
  have hT' := hT
  unfold wfT1 at hT'
  have hc1 : isC (tf z k.toNat 1) := by unfold isC; omega
  have hc1' : 0 ≤ tf z k.toNat 1 ∧ tf z k.toNat 1 < 96 := hc1
  refine B_X2_stepBack_0 ?_
  try dsimp only
  try simp (disch := omega) only [wN hW, wO hW, wTu hW, wGi hW, wMi hW, wL0 hW, wL1 hW, wG0 hW, wG1 hW, wT hW, wH hW]
  refine ⟨swT hB (by omega), ?_⟩
  try simp (disch := omega) only [wN hW, wO hW, wTu hW, wGi hW, wMi hW, wL0 hW, wL1 hW, wG0 hW, wG1 hW, wT hW, wH hW]
  refine ⟨swT hB (by omega), ?_⟩
  try simp (disch := omega) only [wN hW, wO hW, wTu hW, wGi hW, wMi hW, wL0 hW, wL1 hW, wG0 hW, wG1 hW, wT hW, wH hW]
  refine ⟨fun c8_0 => ?_, fun c8_0 => ?_⟩
  · refine B_X2_stepBack_15 ?_
    try dsimp only
    try simp (disch := omega) only [wN hW, wO hW, wTu hW, wGi hW, wMi hW, wL0 hW, wL1 hW, wG0 hW, wG1 hW, wT hW, wH hW]
    refine B_X2_stepBack_16 ?_
    try dsimp only
    try simp (disch := omega) only [wN hW, wO hW, wTu hW, wGi hW, wMi hW, wL0 hW, wL1 hW, wG0 hW, wG1 hW, wT hW, wH hW]
    refine ⟨⟨Nat.zero_le _, Nat.zero_le _, Nat.le_of_ble_eq_true rfl⟩, trivial, ?_⟩
    refine D_neighbour hG hc1' (by omega) (fun r hr => ?_)
    have b1 := nb_cell hc1 (d := 1) (by omega)
    rw [← hr] at b1
    have hc2 : r = -1 ∨ (0 ≤ r ∧ r < 96) := b1
    have hsw : (if r ≠ -1 ∧ clm z (tf z k.toNat 1) r then r else -1) = stT z (tf z k.toNat 1) (if tf z k.toNat 0 = 0 then 3 else 1) := by
      have ew : (if tf z k.toNat 0 = 0 then (3 : Int) else 1) = 1 := by split <;> omega
      rw [ew, hr]
      rfl
    refine af_I0 rfl rfl (by decide) ?_
    try dsimp only
    try simp (disch := omega) only [wN hW, wO hW, wTu hW, wGi hW, wMi hW, wL0 hW, wL1 hW, wG0 hW, wG1 hW, wT hW, wH hW]
    refine B_X2_stepBack_19 ?_
    try dsimp only
    try simp (disch := omega) only [wN hW, wO hW, wTu hW, wGi hW, wMi hW, wL0 hW, wL1 hW, wG0 hW, wG1 hW, wT hW, wH hW]
    refine ⟨fun c22_3 => ?_, fun c22_3 => ?_⟩
    · refine B_X2_stepBack_54 ?_
      try dsimp only
      try simp (disch := omega) only [wN hW, wO hW, wTu hW, wGi hW, wMi hW, wL0 hW, wL1 hW, wG0 hW, wG1 hW, wT hW, wH hW]
      refine ⟨rfl, ?_⟩
      first
        | (have hcl : ¬ clm z (tf z k.toNat 1) r ∨ ¬ r ≠ -1 ∨ tAt z r ≠ -1 := by
             first
               | exact Or.inr (Or.inl (by omega))
               | exact Or.inl (fun u => by have := u.1; have := u.2; omega)
               | exact Or.inr (Or.inr (by assumption))
           have e : marchZ z k.toNat = z := by
             unfold marchZ mvC
             rw [if_pos hst, if_neg (fun u => ?_)]
             · exact uz_self _ _
             · rw [← hsw] at u
               by_cases y : r ≠ -1 ∧ clm z (tf z k.toNat 1) r
               · rw [if_pos y] at u
                 rcases hcl with w | w | w
                 · exact w y.2
                 · exact w y.1
                 · exact w u.2
               · rw [if_neg y] at u
                 exact u.1 rfl
           refine hQ I (FO_refl I b) ?_
           rw [e]
           exact hW)
        | (have e : marchZ z k.toNat = uz z (99 + 8 * k.toNat + 1) r := by
             unfold marchZ mvC
             rw [if_pos hst, ← hsw, if_pos (⟨by assumption, by unfold clm; omega⟩ : r ≠ -1 ∧ clm z (tf z k.toNat 1) r), if_pos ⟨by assumption, Decidable.not_not.mp (by assumption)⟩]
           refine hQ _ (FO_u2 (FO_refl I b) _ _ (by omega)) ?_
           rw [e]
           exact WV_t hW hn2 r (by omega) (by decide))
    · refine ⟨sw0 hB, _, hRW.te, ?_⟩
      refine ⟨swT hB (by omega), ?_⟩
      try simp (disch := omega) only [wN hW, wO hW, wTu hW, wGi hW, wMi hW, wL0 hW, wL1 hW, wG0 hW, wG1 hW, wT hW, wH hW]
      refine ⟨⟨Nat.zero_le _, Nat.zero_le _, Nat.le_of_ble_eq_true rfl⟩, sw1 hB, ?_⟩
      refine D_canStep hG hB hRW (wH hW) hb.1 hc1 (b1.resolve_left (by assumption)) (fun r2 hr2 => ?_)
      refine af_I0 rfl rfl (by decide) ?_
      try dsimp only
      try simp (disch := omega) only [wN hW, wO hW, wTu hW, wGi hW, wMi hW, wL0 hW, wL1 hW, wG0 hW, wG1 hW, wT hW, wH hW]
      refine B_X2_stepBack_37 ?_
      try dsimp only
      try simp (disch := omega) only [wN hW, wO hW, wTu hW, wGi hW, wMi hW, wL0 hW, wL1 hW, wG0 hW, wG1 hW, wT hW, wH hW]
      refine ⟨fun c37_4 => ?_, fun c37_4 => ?_⟩
      · refine B_X2_stepBack_54 ?_
        try dsimp only
        try simp (disch := omega) only [wN hW, wO hW, wTu hW, wGi hW, wMi hW, wL0 hW, wL1 hW, wG0 hW, wG1 hW, wT hW, wH hW]
        refine ⟨rfl, ?_⟩
        first
          | (have hcl : ¬ clm z (tf z k.toNat 1) r ∨ ¬ r ≠ -1 ∨ tAt z r ≠ -1 := by
               first
                 | exact Or.inr (Or.inl (by omega))
                 | exact Or.inl (fun u => by have := u.1; have := u.2; omega)
                 | exact Or.inr (Or.inr (by assumption))
             have e : marchZ z k.toNat = z := by
               unfold marchZ mvC
               rw [if_pos hst, if_neg (fun u => ?_)]
               · exact uz_self _ _
               · rw [← hsw] at u
                 by_cases y : r ≠ -1 ∧ clm z (tf z k.toNat 1) r
                 · rw [if_pos y] at u
                   rcases hcl with w | w | w
                   · exact w y.2
                   · exact w y.1
                   · exact w u.2
                 · rw [if_neg y] at u
                   exact u.1 rfl
             refine hQ I (FO_refl I b) ?_
             rw [e]
             exact hW)
          | (have e : marchZ z k.toNat = uz z (99 + 8 * k.toNat + 1) r := by
               unfold marchZ mvC
               rw [if_pos hst, ← hsw, if_pos (⟨by assumption, by unfold clm; omega⟩ : r ≠ -1 ∧ clm z (tf z k.toNat 1) r), if_pos ⟨by assumption, Decidable.not_not.mp (by assumption)⟩]
             refine hQ _ (FO_u2 (FO_refl I b) _ _ (by omega)) ?_
             rw [e]
             exact WV_t hW hn2 r (by omega) (by decide))
      · refine ⟨⟨Nat.zero_le _, Nat.zero_le _, Nat.le_of_ble_eq_true rfl⟩, sw0 hB, ?_⟩
        refine D_troopIn hG hB hRW hW hb ?_
        refine af_I0 rfl rfl (by decide) ?_
        try dsimp only
        try simp (disch := omega) only [wN hW, wO hW, wTu hW, wGi hW, wMi hW, wL0 hW, wL1 hW, wG0 hW, wG1 hW, wT hW, wH hW]
        refine B_X2_stepBack_45 ?_
        try dsimp only
        try simp (disch := omega) only [wN hW, wO hW, wTu hW, wGi hW, wMi hW, wL0 hW, wL1 hW, wG0 hW, wG1 hW, wT hW, wH hW]
        refine ⟨fun c46_5 => ?_, fun c46_5 => ?_⟩
        · refine B_X2_stepBack_54 ?_
          try dsimp only
          try simp (disch := omega) only [wN hW, wO hW, wTu hW, wGi hW, wMi hW, wL0 hW, wL1 hW, wG0 hW, wG1 hW, wT hW, wH hW]
          refine ⟨rfl, ?_⟩
          first
            | (have hcl : ¬ clm z (tf z k.toNat 1) r ∨ ¬ r ≠ -1 ∨ tAt z r ≠ -1 := by
                 first
                   | exact Or.inr (Or.inl (by omega))
                   | exact Or.inl (fun u => by have := u.1; have := u.2; omega)
                   | exact Or.inr (Or.inr (by assumption))
               have e : marchZ z k.toNat = z := by
                 unfold marchZ mvC
                 rw [if_pos hst, if_neg (fun u => ?_)]
                 · exact uz_self _ _
                 · rw [← hsw] at u
                   by_cases y : r ≠ -1 ∧ clm z (tf z k.toNat 1) r
                   · rw [if_pos y] at u
                     rcases hcl with w | w | w
                     · exact w y.2
                     · exact w y.1
                     · exact w u.2
                   · rw [if_neg y] at u
                     exact u.1 rfl
               refine hQ I (FO_refl I b) ?_
               rw [e]
               exact hW)
            | (have e : marchZ z k.toNat = uz z (99 + 8 * k.toNat + 1) r := by
                 unfold marchZ mvC
                 rw [if_pos hst, ← hsw, if_pos (⟨by assumption, by unfold clm; omega⟩ : r ≠ -1 ∧ clm z (tf z k.toNat 1) r), if_pos ⟨by assumption, Decidable.not_not.mp (by assumption)⟩]
               refine hQ _ (FO_u2 (FO_refl I b) _ _ (by omega)) ?_
               rw [e]
               exact WV_t hW hn2 r (by omega) (by decide))
        · refine ⟨swT hB (by omega), ?_⟩
          try simp (disch := omega) only [wN hW, wO hW, wTu hW, wGi hW, wMi hW, wL0 hW, wL1 hW, wG0 hW, wG1 hW, wT hW, wH hW]
          refine B_X2_stepBack_54 ?_
          try dsimp only
          try simp (disch := omega) only [wN hW, wO hW, wTu hW, wGi hW, wMi hW, wL0 hW, wL1 hW, wG0 hW, wG1 hW, wT hW, wH hW]
          refine ⟨rfl, ?_⟩
          first
            | (have hcl : ¬ clm z (tf z k.toNat 1) r ∨ ¬ r ≠ -1 ∨ tAt z r ≠ -1 := by
                 first
                   | exact Or.inr (Or.inl (by omega))
                   | exact Or.inl (fun u => by have := u.1; have := u.2; omega)
                   | exact Or.inr (Or.inr (by assumption))
               have e : marchZ z k.toNat = z := by
                 unfold marchZ mvC
                 rw [if_pos hst, if_neg (fun u => ?_)]
                 · exact uz_self _ _
                 · rw [← hsw] at u
                   by_cases y : r ≠ -1 ∧ clm z (tf z k.toNat 1) r
                   · rw [if_pos y] at u
                     rcases hcl with w | w | w
                     · exact w y.2
                     · exact w y.1
                     · exact w u.2
                   · rw [if_neg y] at u
                     exact u.1 rfl
               refine hQ I (FO_refl I b) ?_
               rw [e]
               exact hW)
            | (have e : marchZ z k.toNat = uz z (99 + 8 * k.toNat + 1) r := by
                 unfold marchZ mvC
                 rw [if_pos hst, ← hsw, if_pos (⟨by assumption, by unfold clm; omega⟩ : r ≠ -1 ∧ clm z (tf z k.toNat 1) r), if_pos ⟨by assumption, Decidable.not_not.mp (by assumption)⟩]
               refine hQ _ (FO_u2 (FO_refl I b) _ _ (by omega)) ?_
               rw [e]
               exact WV_t hW hn2 r (by omega) (by decide))
  · refine B_X2_stepBack_16 ?_
    try dsimp only
    try simp (disch := omega) only [wN hW, wO hW, wTu hW, wGi hW, wMi hW, wL0 hW, wL1 hW, wG0 hW, wG1 hW, wT hW, wH hW]
    refine ⟨⟨Nat.zero_le _, Nat.zero_le _, Nat.le_of_ble_eq_true rfl⟩, trivial, ?_⟩
    refine D_neighbour hG hc1' (by omega) (fun r hr => ?_)
    have b1 := nb_cell hc1 (d := 3) (by omega)
    rw [← hr] at b1
    have hc2 : r = -1 ∨ (0 ≤ r ∧ r < 96) := b1
    have hsw : (if r ≠ -1 ∧ clm z (tf z k.toNat 1) r then r else -1) = stT z (tf z k.toNat 1) (if tf z k.toNat 0 = 0 then 3 else 1) := by
      have ew : (if tf z k.toNat 0 = 0 then (3 : Int) else 1) = 3 := by split <;> omega
      rw [ew, hr]
      rfl
    refine af_I0 rfl rfl (by decide) ?_
    try dsimp only
    try simp (disch := omega) only [wN hW, wO hW, wTu hW, wGi hW, wMi hW, wL0 hW, wL1 hW, wG0 hW, wG1 hW, wT hW, wH hW]
    refine B_X2_stepBack_19 ?_
    try dsimp only
    try simp (disch := omega) only [wN hW, wO hW, wTu hW, wGi hW, wMi hW, wL0 hW, wL1 hW, wG0 hW, wG1 hW, wT hW, wH hW]
    refine ⟨fun c22_2 => ?_, fun c22_2 => ?_⟩
    · refine B_X2_stepBack_54 ?_
      try dsimp only
      try simp (disch := omega) only [wN hW, wO hW, wTu hW, wGi hW, wMi hW, wL0 hW, wL1 hW, wG0 hW, wG1 hW, wT hW, wH hW]
      refine ⟨rfl, ?_⟩
      first
        | (have hcl : ¬ clm z (tf z k.toNat 1) r ∨ ¬ r ≠ -1 ∨ tAt z r ≠ -1 := by
             first
               | exact Or.inr (Or.inl (by omega))
               | exact Or.inl (fun u => by have := u.1; have := u.2; omega)
               | exact Or.inr (Or.inr (by assumption))
           have e : marchZ z k.toNat = z := by
             unfold marchZ mvC
             rw [if_pos hst, if_neg (fun u => ?_)]
             · exact uz_self _ _
             · rw [← hsw] at u
               by_cases y : r ≠ -1 ∧ clm z (tf z k.toNat 1) r
               · rw [if_pos y] at u
                 rcases hcl with w | w | w
                 · exact w y.2
                 · exact w y.1
                 · exact w u.2
               · rw [if_neg y] at u
                 exact u.1 rfl
           refine hQ I (FO_refl I b) ?_
           rw [e]
           exact hW)
        | (have e : marchZ z k.toNat = uz z (99 + 8 * k.toNat + 1) r := by
             unfold marchZ mvC
             rw [if_pos hst, ← hsw, if_pos (⟨by assumption, by unfold clm; omega⟩ : r ≠ -1 ∧ clm z (tf z k.toNat 1) r), if_pos ⟨by assumption, Decidable.not_not.mp (by assumption)⟩]
           refine hQ _ (FO_u2 (FO_refl I b) _ _ (by omega)) ?_
           rw [e]
           exact WV_t hW hn2 r (by omega) (by decide))
    · refine ⟨sw0 hB, _, hRW.te, ?_⟩
      refine ⟨swT hB (by omega), ?_⟩
      try simp (disch := omega) only [wN hW, wO hW, wTu hW, wGi hW, wMi hW, wL0 hW, wL1 hW, wG0 hW, wG1 hW, wT hW, wH hW]
      refine ⟨⟨Nat.zero_le _, Nat.zero_le _, Nat.le_of_ble_eq_true rfl⟩, sw1 hB, ?_⟩
      refine D_canStep hG hB hRW (wH hW) hb.1 hc1 (b1.resolve_left (by assumption)) (fun r2 hr2 => ?_)
      refine af_I0 rfl rfl (by decide) ?_
      try dsimp only
      try simp (disch := omega) only [wN hW, wO hW, wTu hW, wGi hW, wMi hW, wL0 hW, wL1 hW, wG0 hW, wG1 hW, wT hW, wH hW]
      refine B_X2_stepBack_37 ?_
      try dsimp only
      try simp (disch := omega) only [wN hW, wO hW, wTu hW, wGi hW, wMi hW, wL0 hW, wL1 hW, wG0 hW, wG1 hW, wT hW, wH hW]
      refine ⟨fun c37_3 => ?_, fun c37_3 => ?_⟩
      · refine B_X2_stepBack_54 ?_
        try dsimp only
        try simp (disch := omega) only [wN hW, wO hW, wTu hW, wGi hW, wMi hW, wL0 hW, wL1 hW, wG0 hW, wG1 hW, wT hW, wH hW]
        refine ⟨rfl, ?_⟩
        first
          | (have hcl : ¬ clm z (tf z k.toNat 1) r ∨ ¬ r ≠ -1 ∨ tAt z r ≠ -1 := by
               first
                 | exact Or.inr (Or.inl (by omega))
                 | exact Or.inl (fun u => by have := u.1; have := u.2; omega)
                 | exact Or.inr (Or.inr (by assumption))
             have e : marchZ z k.toNat = z := by
               unfold marchZ mvC
               rw [if_pos hst, if_neg (fun u => ?_)]
               · exact uz_self _ _
               · rw [← hsw] at u
                 by_cases y : r ≠ -1 ∧ clm z (tf z k.toNat 1) r
                 · rw [if_pos y] at u
                   rcases hcl with w | w | w
                   · exact w y.2
                   · exact w y.1
                   · exact w u.2
                 · rw [if_neg y] at u
                   exact u.1 rfl
             refine hQ I (FO_refl I b) ?_
             rw [e]
             exact hW)
          | (have e : marchZ z k.toNat = uz z (99 + 8 * k.toNat + 1) r := by
               unfold marchZ mvC
               rw [if_pos hst, ← hsw, if_pos (⟨by assumption, by unfold clm; omega⟩ : r ≠ -1 ∧ clm z (tf z k.toNat 1) r), if_pos ⟨by assumption, Decidable.not_not.mp (by assumption)⟩]
             refine hQ _ (FO_u2 (FO_refl I b) _ _ (by omega)) ?_
             rw [e]
             exact WV_t hW hn2 r (by omega) (by decide))
      · refine ⟨⟨Nat.zero_le _, Nat.zero_le _, Nat.le_of_ble_eq_true rfl⟩, sw0 hB, ?_⟩
        refine D_troopIn hG hB hRW hW hb ?_
        refine af_I0 rfl rfl (by decide) ?_
        try dsimp only
        try simp (disch := omega) only [wN hW, wO hW, wTu hW, wGi hW, wMi hW, wL0 hW, wL1 hW, wG0 hW, wG1 hW, wT hW, wH hW]
        refine B_X2_stepBack_45 ?_
        try dsimp only
        try simp (disch := omega) only [wN hW, wO hW, wTu hW, wGi hW, wMi hW, wL0 hW, wL1 hW, wG0 hW, wG1 hW, wT hW, wH hW]
        refine ⟨fun c46_4 => ?_, fun c46_4 => ?_⟩
        · refine B_X2_stepBack_54 ?_
          try dsimp only
          try simp (disch := omega) only [wN hW, wO hW, wTu hW, wGi hW, wMi hW, wL0 hW, wL1 hW, wG0 hW, wG1 hW, wT hW, wH hW]
          refine ⟨rfl, ?_⟩
          first
            | (have hcl : ¬ clm z (tf z k.toNat 1) r ∨ ¬ r ≠ -1 ∨ tAt z r ≠ -1 := by
                 first
                   | exact Or.inr (Or.inl (by omega))
                   | exact Or.inl (fun u => by have := u.1; have := u.2; omega)
                   | exact Or.inr (Or.inr (by assumption))
               have e : marchZ z k.toNat = z := by
                 unfold marchZ mvC
                 rw [if_pos hst, if_neg (fun u => ?_)]
                 · exact uz_self _ _
                 · rw [← hsw] at u
                   by_cases y : r ≠ -1 ∧ clm z (tf z k.toNat 1) r
                   · rw [if_pos y] at u
                     rcases hcl with w | w | w
                     · exact w y.2
                     · exact w y.1
                     · exact w u.2
                   · rw [if_neg y] at u
                     exact u.1 rfl
               refine hQ I (FO_refl I b) ?_
               rw [e]
               exact hW)
            | (have e : marchZ z k.toNat = uz z (99 + 8 * k.toNat + 1) r := by
                 unfold marchZ mvC
                 rw [if_pos hst, ← hsw, if_pos (⟨by assumption, by unfold clm; omega⟩ : r ≠ -1 ∧ clm z (tf z k.toNat 1) r), if_pos ⟨by assumption, Decidable.not_not.mp (by assumption)⟩]
               refine hQ _ (FO_u2 (FO_refl I b) _ _ (by omega)) ?_
               rw [e]
               exact WV_t hW hn2 r (by omega) (by decide))
        · refine ⟨swT hB (by omega), ?_⟩
          try simp (disch := omega) only [wN hW, wO hW, wTu hW, wGi hW, wMi hW, wL0 hW, wL1 hW, wG0 hW, wG1 hW, wT hW, wH hW]
          refine B_X2_stepBack_54 ?_
          try dsimp only
          try simp (disch := omega) only [wN hW, wO hW, wTu hW, wGi hW, wMi hW, wL0 hW, wL1 hW, wG0 hW, wG1 hW, wT hW, wH hW]
          refine ⟨rfl, ?_⟩
          first
            | (have hcl : ¬ clm z (tf z k.toNat 1) r ∨ ¬ r ≠ -1 ∨ tAt z r ≠ -1 := by
                 first
                   | exact Or.inr (Or.inl (by omega))
                   | exact Or.inl (fun u => by have := u.1; have := u.2; omega)
                   | exact Or.inr (Or.inr (by assumption))
               have e : marchZ z k.toNat = z := by
                 unfold marchZ mvC
                 rw [if_pos hst, if_neg (fun u => ?_)]
                 · exact uz_self _ _
                 · rw [← hsw] at u
                   by_cases y : r ≠ -1 ∧ clm z (tf z k.toNat 1) r
                   · rw [if_pos y] at u
                     rcases hcl with w | w | w
                     · exact w y.2
                     · exact w y.1
                     · exact w u.2
                   · rw [if_neg y] at u
                     exact u.1 rfl
               refine hQ I (FO_refl I b) ?_
               rw [e]
               exact hW)
            | (have e : marchZ z k.toNat = uz z (99 + 8 * k.toNat + 1) r := by
                 unfold marchZ mvC
                 rw [if_pos hst, ← hsw, if_pos (⟨by assumption, by unfold clm; omega⟩ : r ≠ -1 ∧ clm z (tf z k.toNat 1) r), if_pos ⟨by assumption, Decidable.not_not.mp (by assumption)⟩]
               refine hQ _ (FO_u2 (FO_refl I b) _ _ (by omega)) ?_
               rw [e]
               exact WV_t hW hn2 r (by omega) (by decide))
theorem D_steadyOrRout {G : amG} {I : Nat → Nat → Int} {R : Nat → Nat → Option Nat} {L : Nat → Nat → Int64} {x c t : Nat} {Q : amR → amH → Prop} (hG : amG0 G) {b : Nat} (hB : wb b) (hRW : RW R b) {z : Row} (hW : WV I b z) (hb : wfB z) {k : Int} (hk : 0 ≤ k ∧ k < z 98) (hQ : ∀ J : Nat → Nat → Int, FO I J b → WV J b (settZ z k.toNat) → Q (Sum.inl none) (J, R, L, (SH sT), x, 0, 0)) : CT G sX2_steadyOrRout [aR (some b), aR (some (b + 7 + k.toNat))] (I, R, L, (SH sT), x, c, t) Q := by
  refine CT_of ok_X2_steadyOrRout hG (Nat.le_of_ble_eq_true rfl) ?_
  show X G mX2_steadyOrRout Q 0 _ [] (I, R, L, (SH sT), x, 0, 0)
  have hn1 := hb.2.1.1
  have hn2 := hb.2.1.2
  have hb1 := wb_le hB
  have hT := hb.2.2.1 k.toNat (by omega)
  have hT' := hT
  unfold wfT1 at hT'
  have hc1 : isC (tf z k.toNat 1) := by unfold isC; omega
  refine B_X2_steadyOrRout_0 ?_
  try dsimp only
  try simp (disch := omega) only [u2_same, u2_ne, wN hW, wO hW, wTu hW, wGi hW, wMi hW, wL0 hW, wL1 hW, wG0 hW, wG1 hW, wT hW, wH hW]
  refine ⟨swT hB (by omega), ?_⟩
  try simp (disch := omega) only [u2_same, u2_ne, wN hW, wO hW, wTu hW, wGi hW, wMi hW, wL0 hW, wL1 hW, wG0 hW, wG1 hW, wT hW, wH hW]
  refine ⟨fun c4_0 => ?_, fun c4_0 => ?_⟩
  · refine B_X2_steadyOrRout_35 ?_
    try dsimp only
    try simp (disch := omega) only [u2_same, u2_ne, wN hW, wO hW, wTu hW, wGi hW, wMi hW, wL0 hW, wL1 hW, wG0 hW, wG1 hW, wT hW, wH hW]
    refine ⟨swT hB (by omega), ?_⟩
    try simp (disch := omega) only [u2_same, u2_ne, wN hW, wO hW, wTu hW, wGi hW, wMi hW, wL0 hW, wL1 hW, wG0 hW, wG1 hW, wT hW, wH hW]
    refine ⟨fun c40_1 => ?_, fun c40_1 => ?_⟩
    · refine B_X2_steadyOrRout_71 ?_
      try dsimp only
      try simp (disch := omega) only [u2_same, u2_ne, wN hW, wO hW, wTu hW, wGi hW, wMi hW, wL0 hW, wL1 hW, wG0 hW, wG1 hW, wT hW, wH hW]
      refine ⟨rfl, ?_⟩
      first
        | (have e : settZ z k.toNat = uz z (99 + 8 * k.toNat + 4) 1 := by unfold settZ; exact if_pos ⟨by omega, by omega, by omega⟩
           refine hQ _ (FO_u2 (FO_refl I b) _ _ (by omega)) ?_
           rw [e]
           exact WV_t hW hn2 1 (by omega) (by decide))
        | (have e : settZ z k.toNat = uz (uz z (99 + 8 * k.toNat + 4) 0) (99 + 8 * k.toNat + 3) (tf z k.toNat 1) := by unfold settZ; rw [if_neg (by omega)]; exact if_pos ⟨by omega, by omega, by omega⟩
           refine hQ _ (FO_u2 (FO_u2 (FO_refl I b) _ _ (by omega)) _ _ (by omega)) ?_
           rw [e]
           exact WV_t (WV_t hW hn2 0 (by omega) (by decide)) (by rw [uz_ne _ _ (by omega)]; omega) (tf z k.toNat 1) (by rw [uz_ne _ _ (by omega)]; omega) (by decide))
        | (have e : settZ z k.toNat = z := by unfold settZ; rw [if_neg (by omega), if_neg (by omega)]
           refine hQ I (FO_refl I b) ?_
           rw [e]
           exact hW)
    · refine ⟨swT hB (by omega), ?_⟩
      try simp (disch := omega) only [u2_same, u2_ne, wN hW, wO hW, wTu hW, wGi hW, wMi hW, wL0 hW, wL1 hW, wG0 hW, wG1 hW, wT hW, wH hW]
      refine ⟨fun c47_1 => ?_, fun c47_1 => ?_⟩
      · refine B_X2_steadyOrRout_71 ?_
        try dsimp only
        try simp (disch := omega) only [u2_same, u2_ne, wN hW, wO hW, wTu hW, wGi hW, wMi hW, wL0 hW, wL1 hW, wG0 hW, wG1 hW, wT hW, wH hW]
        refine ⟨rfl, ?_⟩
        first
          | (have e : settZ z k.toNat = uz z (99 + 8 * k.toNat + 4) 1 := by unfold settZ; exact if_pos ⟨by omega, by omega, by omega⟩
             refine hQ _ (FO_u2 (FO_refl I b) _ _ (by omega)) ?_
             rw [e]
             exact WV_t hW hn2 1 (by omega) (by decide))
          | (have e : settZ z k.toNat = uz (uz z (99 + 8 * k.toNat + 4) 0) (99 + 8 * k.toNat + 3) (tf z k.toNat 1) := by unfold settZ; rw [if_neg (by omega)]; exact if_pos ⟨by omega, by omega, by omega⟩
             refine hQ _ (FO_u2 (FO_u2 (FO_refl I b) _ _ (by omega)) _ _ (by omega)) ?_
             rw [e]
             exact WV_t (WV_t hW hn2 0 (by omega) (by decide)) (by rw [uz_ne _ _ (by omega)]; omega) (tf z k.toNat 1) (by rw [uz_ne _ _ (by omega)]; omega) (by decide))
          | (have e : settZ z k.toNat = z := by unfold settZ; rw [if_neg (by omega), if_neg (by omega)]
             refine hQ I (FO_refl I b) ?_
             rw [e]
             exact hW)
      · refine ⟨⟨Nat.zero_le _, Nat.zero_le _, Nat.le_of_ble_eq_true rfl⟩, trivial, ?_⟩
        refine D_seesEnemy hG hB hRW hW hb hk ?_
        have hsb := seN_b z k.toNat (z 98).toNat
        refine af_I0 rfl rfl (by decide) ?_
        try dsimp only
        try simp (disch := omega) only [u2_same, u2_ne, wN hW, wO hW, wTu hW, wGi hW, wMi hW, wL0 hW, wL1 hW, wG0 hW, wG1 hW, wT hW, wH hW]
        refine B_X2_steadyOrRout_55 ?_
        try dsimp only
        try simp (disch := omega) only [u2_same, u2_ne, wN hW, wO hW, wTu hW, wGi hW, wMi hW, wL0 hW, wL1 hW, wG0 hW, wG1 hW, wT hW, wH hW]
        refine ⟨fun c55_2 => ?_, fun c55_2 => ?_⟩
        · refine B_X2_steadyOrRout_71 ?_
          try dsimp only
          try simp (disch := omega) only [u2_same, u2_ne, wN hW, wO hW, wTu hW, wGi hW, wMi hW, wL0 hW, wL1 hW, wG0 hW, wG1 hW, wT hW, wH hW]
          refine ⟨rfl, ?_⟩
          first
            | (have e : settZ z k.toNat = uz z (99 + 8 * k.toNat + 4) 1 := by unfold settZ; exact if_pos ⟨by omega, by omega, by omega⟩
               refine hQ _ (FO_u2 (FO_refl I b) _ _ (by omega)) ?_
               rw [e]
               exact WV_t hW hn2 1 (by omega) (by decide))
            | (have e : settZ z k.toNat = uz (uz z (99 + 8 * k.toNat + 4) 0) (99 + 8 * k.toNat + 3) (tf z k.toNat 1) := by unfold settZ; rw [if_neg (by omega)]; exact if_pos ⟨by omega, by omega, by omega⟩
               refine hQ _ (FO_u2 (FO_u2 (FO_refl I b) _ _ (by omega)) _ _ (by omega)) ?_
               rw [e]
               exact WV_t (WV_t hW hn2 0 (by omega) (by decide)) (by rw [uz_ne _ _ (by omega)]; omega) (tf z k.toNat 1) (by rw [uz_ne _ _ (by omega)]; omega) (by decide))
            | (have e : settZ z k.toNat = z := by unfold settZ; rw [if_neg (by omega), if_neg (by omega)]
               refine hQ I (FO_refl I b) ?_
               rw [e]
               exact hW)
        · refine ⟨swT hB (by omega), ?_⟩
          try simp (disch := omega) only [u2_same, u2_ne, wN hW, wO hW, wTu hW, wGi hW, wMi hW, wL0 hW, wL1 hW, wG0 hW, wG1 hW, wT hW, wH hW]
          refine ⟨swT hB (by omega), ?_⟩
          try simp (disch := omega) only [u2_same, u2_ne, wN hW, wO hW, wTu hW, wGi hW, wMi hW, wL0 hW, wL1 hW, wG0 hW, wG1 hW, wT hW, wH hW]
          refine ⟨swT hB (by omega), ?_⟩
          try simp (disch := omega) only [u2_same, u2_ne, wN hW, wO hW, wTu hW, wGi hW, wMi hW, wL0 hW, wL1 hW, wG0 hW, wG1 hW, wT hW, wH hW]
          refine B_X2_steadyOrRout_71 ?_
          try dsimp only
          try simp (disch := omega) only [u2_same, u2_ne, wN hW, wO hW, wTu hW, wGi hW, wMi hW, wL0 hW, wL1 hW, wG0 hW, wG1 hW, wT hW, wH hW]
          refine ⟨rfl, ?_⟩
          first
            | (have e : settZ z k.toNat = uz z (99 + 8 * k.toNat + 4) 1 := by unfold settZ; exact if_pos ⟨by omega, by omega, by omega⟩
               refine hQ _ (FO_u2 (FO_refl I b) _ _ (by omega)) ?_
               rw [e]
               exact WV_t hW hn2 1 (by omega) (by decide))
            | (have e : settZ z k.toNat = uz (uz z (99 + 8 * k.toNat + 4) 0) (99 + 8 * k.toNat + 3) (tf z k.toNat 1) := by unfold settZ; rw [if_neg (by omega)]; exact if_pos ⟨by omega, by omega, by omega⟩
               refine hQ _ (FO_u2 (FO_u2 (FO_refl I b) _ _ (by omega)) _ _ (by omega)) ?_
               rw [e]
               exact WV_t (WV_t hW hn2 0 (by omega) (by decide)) (by rw [uz_ne _ _ (by omega)]; omega) (tf z k.toNat 1) (by rw [uz_ne _ _ (by omega)]; omega) (by decide))
            | (have e : settZ z k.toNat = z := by unfold settZ; rw [if_neg (by omega), if_neg (by omega)]
               refine hQ I (FO_refl I b) ?_
               rw [e]
               exact hW)
  · refine ⟨swT hB (by omega), ?_⟩
    try simp (disch := omega) only [u2_same, u2_ne, wN hW, wO hW, wTu hW, wGi hW, wMi hW, wL0 hW, wL1 hW, wG0 hW, wG1 hW, wT hW, wH hW]
    refine ⟨fun c11_0 => ?_, fun c11_0 => ?_⟩
    · refine B_X2_steadyOrRout_35 ?_
      try dsimp only
      try simp (disch := omega) only [u2_same, u2_ne, wN hW, wO hW, wTu hW, wGi hW, wMi hW, wL0 hW, wL1 hW, wG0 hW, wG1 hW, wT hW, wH hW]
      refine ⟨swT hB (by omega), ?_⟩
      try simp (disch := omega) only [u2_same, u2_ne, wN hW, wO hW, wTu hW, wGi hW, wMi hW, wL0 hW, wL1 hW, wG0 hW, wG1 hW, wT hW, wH hW]
      refine ⟨fun c40_1 => ?_, fun c40_1 => ?_⟩
      · refine B_X2_steadyOrRout_71 ?_
        try dsimp only
        try simp (disch := omega) only [u2_same, u2_ne, wN hW, wO hW, wTu hW, wGi hW, wMi hW, wL0 hW, wL1 hW, wG0 hW, wG1 hW, wT hW, wH hW]
        refine ⟨rfl, ?_⟩
        first
          | (have e : settZ z k.toNat = uz z (99 + 8 * k.toNat + 4) 1 := by unfold settZ; exact if_pos ⟨by omega, by omega, by omega⟩
             refine hQ _ (FO_u2 (FO_refl I b) _ _ (by omega)) ?_
             rw [e]
             exact WV_t hW hn2 1 (by omega) (by decide))
          | (have e : settZ z k.toNat = uz (uz z (99 + 8 * k.toNat + 4) 0) (99 + 8 * k.toNat + 3) (tf z k.toNat 1) := by unfold settZ; rw [if_neg (by omega)]; exact if_pos ⟨by omega, by omega, by omega⟩
             refine hQ _ (FO_u2 (FO_u2 (FO_refl I b) _ _ (by omega)) _ _ (by omega)) ?_
             rw [e]
             exact WV_t (WV_t hW hn2 0 (by omega) (by decide)) (by rw [uz_ne _ _ (by omega)]; omega) (tf z k.toNat 1) (by rw [uz_ne _ _ (by omega)]; omega) (by decide))
          | (have e : settZ z k.toNat = z := by unfold settZ; rw [if_neg (by omega), if_neg (by omega)]
             refine hQ I (FO_refl I b) ?_
             rw [e]
             exact hW)
      · refine ⟨swT hB (by omega), ?_⟩
        try simp (disch := omega) only [u2_same, u2_ne, wN hW, wO hW, wTu hW, wGi hW, wMi hW, wL0 hW, wL1 hW, wG0 hW, wG1 hW, wT hW, wH hW]
        refine ⟨fun c47_1 => ?_, fun c47_1 => ?_⟩
        · refine B_X2_steadyOrRout_71 ?_
          try dsimp only
          try simp (disch := omega) only [u2_same, u2_ne, wN hW, wO hW, wTu hW, wGi hW, wMi hW, wL0 hW, wL1 hW, wG0 hW, wG1 hW, wT hW, wH hW]
          refine ⟨rfl, ?_⟩
          first
            | (have e : settZ z k.toNat = uz z (99 + 8 * k.toNat + 4) 1 := by unfold settZ; exact if_pos ⟨by omega, by omega, by omega⟩
               refine hQ _ (FO_u2 (FO_refl I b) _ _ (by omega)) ?_
               rw [e]
               exact WV_t hW hn2 1 (by omega) (by decide))
            | (have e : settZ z k.toNat = uz (uz z (99 + 8 * k.toNat + 4) 0) (99 + 8 * k.toNat + 3) (tf z k.toNat 1) := by unfold settZ; rw [if_neg (by omega)]; exact if_pos ⟨by omega, by omega, by omega⟩
               refine hQ _ (FO_u2 (FO_u2 (FO_refl I b) _ _ (by omega)) _ _ (by omega)) ?_
               rw [e]
               exact WV_t (WV_t hW hn2 0 (by omega) (by decide)) (by rw [uz_ne _ _ (by omega)]; omega) (tf z k.toNat 1) (by rw [uz_ne _ _ (by omega)]; omega) (by decide))
            | (have e : settZ z k.toNat = z := by unfold settZ; rw [if_neg (by omega), if_neg (by omega)]
               refine hQ I (FO_refl I b) ?_
               rw [e]
               exact hW)
        · refine ⟨⟨Nat.zero_le _, Nat.zero_le _, Nat.le_of_ble_eq_true rfl⟩, trivial, ?_⟩
          refine D_seesEnemy hG hB hRW hW hb hk ?_
          have hsb := seN_b z k.toNat (z 98).toNat
          refine af_I0 rfl rfl (by decide) ?_
          try dsimp only
          try simp (disch := omega) only [u2_same, u2_ne, wN hW, wO hW, wTu hW, wGi hW, wMi hW, wL0 hW, wL1 hW, wG0 hW, wG1 hW, wT hW, wH hW]
          refine B_X2_steadyOrRout_55 ?_
          try dsimp only
          try simp (disch := omega) only [u2_same, u2_ne, wN hW, wO hW, wTu hW, wGi hW, wMi hW, wL0 hW, wL1 hW, wG0 hW, wG1 hW, wT hW, wH hW]
          refine ⟨fun c55_2 => ?_, fun c55_2 => ?_⟩
          · refine B_X2_steadyOrRout_71 ?_
            try dsimp only
            try simp (disch := omega) only [u2_same, u2_ne, wN hW, wO hW, wTu hW, wGi hW, wMi hW, wL0 hW, wL1 hW, wG0 hW, wG1 hW, wT hW, wH hW]
            refine ⟨rfl, ?_⟩
            first
              | (have e : settZ z k.toNat = uz z (99 + 8 * k.toNat + 4) 1 := by unfold settZ; exact if_pos ⟨by omega, by omega, by omega⟩
                 refine hQ _ (FO_u2 (FO_refl I b) _ _ (by omega)) ?_
                 rw [e]
                 exact WV_t hW hn2 1 (by omega) (by decide))
              | (have e : settZ z k.toNat = uz (uz z (99 + 8 * k.toNat + 4) 0) (99 + 8 * k.toNat + 3) (tf z k.toNat 1) := by unfold settZ; rw [if_neg (by omega)]; exact if_pos ⟨by omega, by omega, by omega⟩
                 refine hQ _ (FO_u2 (FO_u2 (FO_refl I b) _ _ (by omega)) _ _ (by omega)) ?_
                 rw [e]
                 exact WV_t (WV_t hW hn2 0 (by omega) (by decide)) (by rw [uz_ne _ _ (by omega)]; omega) (tf z k.toNat 1) (by rw [uz_ne _ _ (by omega)]; omega) (by decide))
              | (have e : settZ z k.toNat = z := by unfold settZ; rw [if_neg (by omega), if_neg (by omega)]
                 refine hQ I (FO_refl I b) ?_
                 rw [e]
                 exact hW)
          · refine ⟨swT hB (by omega), ?_⟩
            try simp (disch := omega) only [u2_same, u2_ne, wN hW, wO hW, wTu hW, wGi hW, wMi hW, wL0 hW, wL1 hW, wG0 hW, wG1 hW, wT hW, wH hW]
            refine ⟨swT hB (by omega), ?_⟩
            try simp (disch := omega) only [u2_same, u2_ne, wN hW, wO hW, wTu hW, wGi hW, wMi hW, wL0 hW, wL1 hW, wG0 hW, wG1 hW, wT hW, wH hW]
            refine ⟨swT hB (by omega), ?_⟩
            try simp (disch := omega) only [u2_same, u2_ne, wN hW, wO hW, wTu hW, wGi hW, wMi hW, wL0 hW, wL1 hW, wG0 hW, wG1 hW, wT hW, wH hW]
            refine B_X2_steadyOrRout_71 ?_
            try dsimp only
            try simp (disch := omega) only [u2_same, u2_ne, wN hW, wO hW, wTu hW, wGi hW, wMi hW, wL0 hW, wL1 hW, wG0 hW, wG1 hW, wT hW, wH hW]
            refine ⟨rfl, ?_⟩
            first
              | (have e : settZ z k.toNat = uz z (99 + 8 * k.toNat + 4) 1 := by unfold settZ; exact if_pos ⟨by omega, by omega, by omega⟩
                 refine hQ _ (FO_u2 (FO_refl I b) _ _ (by omega)) ?_
                 rw [e]
                 exact WV_t hW hn2 1 (by omega) (by decide))
              | (have e : settZ z k.toNat = uz (uz z (99 + 8 * k.toNat + 4) 0) (99 + 8 * k.toNat + 3) (tf z k.toNat 1) := by unfold settZ; rw [if_neg (by omega)]; exact if_pos ⟨by omega, by omega, by omega⟩
                 refine hQ _ (FO_u2 (FO_u2 (FO_refl I b) _ _ (by omega)) _ _ (by omega)) ?_
                 rw [e]
                 exact WV_t (WV_t hW hn2 0 (by omega) (by decide)) (by rw [uz_ne _ _ (by omega)]; omega) (tf z k.toNat 1) (by rw [uz_ne _ _ (by omega)]; omega) (by decide))
              | (have e : settZ z k.toNat = z := by unfold settZ; rw [if_neg (by omega), if_neg (by omega)]
                 refine hQ I (FO_refl I b) ?_
                 rw [e]
                 exact hW)
    · refine ⟨swT hB (by omega), ?_⟩
      try simp (disch := omega) only [u2_same, u2_ne, wN hW, wO hW, wTu hW, wGi hW, wMi hW, wL0 hW, wL1 hW, wG0 hW, wG1 hW, wT hW, wH hW]
      refine ⟨by (refine ⟨?_, ?_⟩ <;> omega), ?_⟩
      refine ⟨swT hB (by omega), ?_⟩
      try simp (disch := omega) only [u2_same, u2_ne, wN hW, wO hW, wTu hW, wGi hW, wMi hW, wL0 hW, wL1 hW, wG0 hW, wG1 hW, wT hW, wH hW]
      refine ⟨fun c24_0 => ?_, fun c24_0 => ?_⟩
      · refine B_X2_steadyOrRout_35 ?_
        try dsimp only
        try simp (disch := omega) only [u2_same, u2_ne, wN hW, wO hW, wTu hW, wGi hW, wMi hW, wL0 hW, wL1 hW, wG0 hW, wG1 hW, wT hW, wH hW]
        refine ⟨swT hB (by omega), ?_⟩
        try simp (disch := omega) only [u2_same, u2_ne, wN hW, wO hW, wTu hW, wGi hW, wMi hW, wL0 hW, wL1 hW, wG0 hW, wG1 hW, wT hW, wH hW]
        refine ⟨fun c40_1 => ?_, fun c40_1 => ?_⟩
        · refine B_X2_steadyOrRout_71 ?_
          try dsimp only
          try simp (disch := omega) only [u2_same, u2_ne, wN hW, wO hW, wTu hW, wGi hW, wMi hW, wL0 hW, wL1 hW, wG0 hW, wG1 hW, wT hW, wH hW]
          refine ⟨rfl, ?_⟩
          first
            | (have e : settZ z k.toNat = uz z (99 + 8 * k.toNat + 4) 1 := by unfold settZ; exact if_pos ⟨by omega, by omega, by omega⟩
               refine hQ _ (FO_u2 (FO_refl I b) _ _ (by omega)) ?_
               rw [e]
               exact WV_t hW hn2 1 (by omega) (by decide))
            | (have e : settZ z k.toNat = uz (uz z (99 + 8 * k.toNat + 4) 0) (99 + 8 * k.toNat + 3) (tf z k.toNat 1) := by unfold settZ; rw [if_neg (by omega)]; exact if_pos ⟨by omega, by omega, by omega⟩
               refine hQ _ (FO_u2 (FO_u2 (FO_refl I b) _ _ (by omega)) _ _ (by omega)) ?_
               rw [e]
               exact WV_t (WV_t hW hn2 0 (by omega) (by decide)) (by rw [uz_ne _ _ (by omega)]; omega) (tf z k.toNat 1) (by rw [uz_ne _ _ (by omega)]; omega) (by decide))
            | (have e : settZ z k.toNat = z := by unfold settZ; rw [if_neg (by omega), if_neg (by omega)]
               refine hQ I (FO_refl I b) ?_
               rw [e]
               exact hW)
        · refine ⟨swT hB (by omega), ?_⟩
          try simp (disch := omega) only [u2_same, u2_ne, wN hW, wO hW, wTu hW, wGi hW, wMi hW, wL0 hW, wL1 hW, wG0 hW, wG1 hW, wT hW, wH hW]
          refine ⟨fun c47_1 => ?_, fun c47_1 => ?_⟩
          · refine B_X2_steadyOrRout_71 ?_
            try dsimp only
            try simp (disch := omega) only [u2_same, u2_ne, wN hW, wO hW, wTu hW, wGi hW, wMi hW, wL0 hW, wL1 hW, wG0 hW, wG1 hW, wT hW, wH hW]
            refine ⟨rfl, ?_⟩
            first
              | (have e : settZ z k.toNat = uz z (99 + 8 * k.toNat + 4) 1 := by unfold settZ; exact if_pos ⟨by omega, by omega, by omega⟩
                 refine hQ _ (FO_u2 (FO_refl I b) _ _ (by omega)) ?_
                 rw [e]
                 exact WV_t hW hn2 1 (by omega) (by decide))
              | (have e : settZ z k.toNat = uz (uz z (99 + 8 * k.toNat + 4) 0) (99 + 8 * k.toNat + 3) (tf z k.toNat 1) := by unfold settZ; rw [if_neg (by omega)]; exact if_pos ⟨by omega, by omega, by omega⟩
                 refine hQ _ (FO_u2 (FO_u2 (FO_refl I b) _ _ (by omega)) _ _ (by omega)) ?_
                 rw [e]
                 exact WV_t (WV_t hW hn2 0 (by omega) (by decide)) (by rw [uz_ne _ _ (by omega)]; omega) (tf z k.toNat 1) (by rw [uz_ne _ _ (by omega)]; omega) (by decide))
              | (have e : settZ z k.toNat = z := by unfold settZ; rw [if_neg (by omega), if_neg (by omega)]
                 refine hQ I (FO_refl I b) ?_
                 rw [e]
                 exact hW)
          · refine ⟨⟨Nat.zero_le _, Nat.zero_le _, Nat.le_of_ble_eq_true rfl⟩, trivial, ?_⟩
            refine D_seesEnemy hG hB hRW hW hb hk ?_
            have hsb := seN_b z k.toNat (z 98).toNat
            refine af_I0 rfl rfl (by decide) ?_
            try dsimp only
            try simp (disch := omega) only [u2_same, u2_ne, wN hW, wO hW, wTu hW, wGi hW, wMi hW, wL0 hW, wL1 hW, wG0 hW, wG1 hW, wT hW, wH hW]
            refine B_X2_steadyOrRout_55 ?_
            try dsimp only
            try simp (disch := omega) only [u2_same, u2_ne, wN hW, wO hW, wTu hW, wGi hW, wMi hW, wL0 hW, wL1 hW, wG0 hW, wG1 hW, wT hW, wH hW]
            refine ⟨fun c55_2 => ?_, fun c55_2 => ?_⟩
            · refine B_X2_steadyOrRout_71 ?_
              try dsimp only
              try simp (disch := omega) only [u2_same, u2_ne, wN hW, wO hW, wTu hW, wGi hW, wMi hW, wL0 hW, wL1 hW, wG0 hW, wG1 hW, wT hW, wH hW]
              refine ⟨rfl, ?_⟩
              first
                | (have e : settZ z k.toNat = uz z (99 + 8 * k.toNat + 4) 1 := by unfold settZ; exact if_pos ⟨by omega, by omega, by omega⟩
                   refine hQ _ (FO_u2 (FO_refl I b) _ _ (by omega)) ?_
                   rw [e]
                   exact WV_t hW hn2 1 (by omega) (by decide))
                | (have e : settZ z k.toNat = uz (uz z (99 + 8 * k.toNat + 4) 0) (99 + 8 * k.toNat + 3) (tf z k.toNat 1) := by unfold settZ; rw [if_neg (by omega)]; exact if_pos ⟨by omega, by omega, by omega⟩
                   refine hQ _ (FO_u2 (FO_u2 (FO_refl I b) _ _ (by omega)) _ _ (by omega)) ?_
                   rw [e]
                   exact WV_t (WV_t hW hn2 0 (by omega) (by decide)) (by rw [uz_ne _ _ (by omega)]; omega) (tf z k.toNat 1) (by rw [uz_ne _ _ (by omega)]; omega) (by decide))
                | (have e : settZ z k.toNat = z := by unfold settZ; rw [if_neg (by omega), if_neg (by omega)]
                   refine hQ I (FO_refl I b) ?_
                   rw [e]
                   exact hW)
            · refine ⟨swT hB (by omega), ?_⟩
              try simp (disch := omega) only [u2_same, u2_ne, wN hW, wO hW, wTu hW, wGi hW, wMi hW, wL0 hW, wL1 hW, wG0 hW, wG1 hW, wT hW, wH hW]
              refine ⟨swT hB (by omega), ?_⟩
              try simp (disch := omega) only [u2_same, u2_ne, wN hW, wO hW, wTu hW, wGi hW, wMi hW, wL0 hW, wL1 hW, wG0 hW, wG1 hW, wT hW, wH hW]
              refine ⟨swT hB (by omega), ?_⟩
              try simp (disch := omega) only [u2_same, u2_ne, wN hW, wO hW, wTu hW, wGi hW, wMi hW, wL0 hW, wL1 hW, wG0 hW, wG1 hW, wT hW, wH hW]
              refine B_X2_steadyOrRout_71 ?_
              try dsimp only
              try simp (disch := omega) only [u2_same, u2_ne, wN hW, wO hW, wTu hW, wGi hW, wMi hW, wL0 hW, wL1 hW, wG0 hW, wG1 hW, wT hW, wH hW]
              refine ⟨rfl, ?_⟩
              first
                | (have e : settZ z k.toNat = uz z (99 + 8 * k.toNat + 4) 1 := by unfold settZ; exact if_pos ⟨by omega, by omega, by omega⟩
                   refine hQ _ (FO_u2 (FO_refl I b) _ _ (by omega)) ?_
                   rw [e]
                   exact WV_t hW hn2 1 (by omega) (by decide))
                | (have e : settZ z k.toNat = uz (uz z (99 + 8 * k.toNat + 4) 0) (99 + 8 * k.toNat + 3) (tf z k.toNat 1) := by unfold settZ; rw [if_neg (by omega)]; exact if_pos ⟨by omega, by omega, by omega⟩
                   refine hQ _ (FO_u2 (FO_u2 (FO_refl I b) _ _ (by omega)) _ _ (by omega)) ?_
                   rw [e]
                   exact WV_t (WV_t hW hn2 0 (by omega) (by decide)) (by rw [uz_ne _ _ (by omega)]; omega) (tf z k.toNat 1) (by rw [uz_ne _ _ (by omega)]; omega) (by decide))
                | (have e : settZ z k.toNat = z := by unfold settZ; rw [if_neg (by omega), if_neg (by omega)]
                   refine hQ I (FO_refl I b) ?_
                   rw [e]
                   exact hW)
      · refine ⟨swT hB (by omega), ?_⟩
        try simp (disch := omega) only [u2_same, u2_ne, wN hW, wO hW, wTu hW, wGi hW, wMi hW, wL0 hW, wL1 hW, wG0 hW, wG1 hW, wT hW, wH hW]
        refine B_X2_steadyOrRout_71 ?_
        try dsimp only
        try simp (disch := omega) only [u2_same, u2_ne, wN hW, wO hW, wTu hW, wGi hW, wMi hW, wL0 hW, wL1 hW, wG0 hW, wG1 hW, wT hW, wH hW]
        refine ⟨rfl, ?_⟩
        first
          | (have e : settZ z k.toNat = uz z (99 + 8 * k.toNat + 4) 1 := by unfold settZ; exact if_pos ⟨by omega, by omega, by omega⟩
             refine hQ _ (FO_u2 (FO_refl I b) _ _ (by omega)) ?_
             rw [e]
             exact WV_t hW hn2 1 (by omega) (by decide))
          | (have e : settZ z k.toNat = uz (uz z (99 + 8 * k.toNat + 4) 0) (99 + 8 * k.toNat + 3) (tf z k.toNat 1) := by unfold settZ; rw [if_neg (by omega)]; exact if_pos ⟨by omega, by omega, by omega⟩
             refine hQ _ (FO_u2 (FO_u2 (FO_refl I b) _ _ (by omega)) _ _ (by omega)) ?_
             rw [e]
             exact WV_t (WV_t hW hn2 0 (by omega) (by decide)) (by rw [uz_ne _ _ (by omega)]; omega) (tf z k.toNat 1) (by rw [uz_ne _ _ (by omega)]; omega) (by decide))
          | (have e : settZ z k.toNat = z := by unfold settZ; rw [if_neg (by omega), if_neg (by omega)]
             refine hQ I (FO_refl I b) ?_
             rw [e]
             exact hW)
theorem L_fightC1 {G : amG} {I : Nat → Nat → Int} {R : Nat → Nat → Option Nat} {L : Nat → Nat → Int64} {x : Nat} {Q : amR → amH → Prop} (hG : amG0 G) {b : Nat} (hB : wb b) (hRW : RW R b) {z : Row} (hW : WV I b z) (hb : wfB z) (hK : ∀ J : Nat → Nat → Int, FO I J b → WV J b (fA z (z 98).toNat) → X G mX2_fight Q 35 [some (aR (some b)), some (aI (z 98)), none] [] (J, R, L, (SH sT), x, 0, 0)) :
    ∀ (n : Nat) (j : Int) (J : Nat → Nat → Int), (0 ≤ j ∧ j ≤ z 98 ∧ z 98 - j < n) → FO I J b → WV J b (fA z j.toNat) → X G mX2_fight Q 2 [some (aR (some b)), some (aI j), none] [] (J, R, L, (SH sT), x, 0, 0) := by
  intro n
  induction n with
  | zero =>
    intros
    exfalso; omega
  | succ n ih =>
    intro j J h1 hF hJ
    have hn1 := hb.2.1.1
    have hn2 := hb.2.1.2
    have hb1 := wb_le hB
    have h98 := fA_N (z := z) j.toNat
    have hbA := fA_B hb j.toNat
    have hs := fA_s z j.toNat
    refine B_X2_fight_2 ?_
    try dsimp only
    try simp (disch := omega) only [u2_same, u2_ne, wN hJ, wO hJ, wTu hJ, wGi hJ, wMi hJ, wL0 hJ, wL1 hJ, wG0 hJ, wG1 hJ, wT hJ, wH hJ, h98]
    refine ⟨sw0 hB, ?_⟩
    try simp (disch := omega) only [u2_same, u2_ne, wN hJ, wO hJ, wTu hJ, wGi hJ, wMi hJ, wL0 hJ, wL1 hJ, wG0 hJ, wG1 hJ, wT hJ, wH hJ, h98]
    refine ⟨fun c7_0 => ?_, fun c7_0 => ?_⟩
    · have e : j = z 98 := by omega
      rw [e] at hJ ⊢
      exact hK J hF hJ
    · refine ⟨sw0 hB, _, hRW.tr, ?_⟩
      refine ⟨_, _, sw4 hB, ⟨by decide, by decide⟩, ⟨by omega, by omega⟩, _, hRW.t (by omega), ?_⟩
      refine ⟨sw0 hB, _, hRW.tr, ?_⟩
      refine ⟨_, _, sw4 hB, ⟨by decide, by decide⟩, ⟨by omega, by omega⟩, _, hRW.t (by omega), ?_⟩
      refine ⟨⟨Nat.zero_le _, Nat.zero_le _, Nat.le_of_ble_eq_true rfl⟩, trivial, ?_⟩
      refine D_lossOf hG hB hRW hJ hbA (k := j) (by omega) ?_
      refine af_I0 rfl rfl (by decide) ?_
      try dsimp only
      try simp (disch := omega) only [u2_same, u2_ne, wN hJ, wO hJ, wTu hJ, wGi hJ, wMi hJ, wL0 hJ, wL1 hJ, wG0 hJ, wG1 hJ, wT hJ, wH hJ, h98]
      refine B_X2_fight_26 ?_
      try dsimp only
      try simp (disch := omega) only [u2_same, u2_ne, wN hJ, wO hJ, wTu hJ, wGi hJ, wMi hJ, wL0 hJ, wL1 hJ, wG0 hJ, wG1 hJ, wT hJ, wH hJ, h98]
      refine ⟨swT hB (by omega), ?_⟩
      try simp (disch := omega) only [u2_same, u2_ne, wN hJ, wO hJ, wTu hJ, wGi hJ, wMi hJ, wL0 hJ, wL1 hJ, wG0 hJ, wG1 hJ, wT hJ, wH hJ, h98]
      refine ⟨by (refine ⟨?_, ?_⟩ <;> omega), ?_⟩
      refine ih (j + 1) _ (by omega) (FO_u2 hF _ _ (by omega)) ?_
      rw [show (j + 1).toNat = j.toNat + 1 by omega, hs]
      exact WV_t hJ (by omega) _ (by omega) (by decide)
theorem L_fightC2 {G : amG} {I : Nat → Nat → Int} {R : Nat → Nat → Option Nat} {L : Nat → Nat → Int64} {x : Nat} {Q : amR → amH → Prop} (hG : amG0 G) {b : Nat} (hB : wb b) (hRW : RW R b) {z y : Row} (hn : wfN z) (h98y : y 98 = z 98) (hty : wfT y) (hS : ∀ l : Nat, (l : Int) < z 98 → tf y l 2 - tf y l 6 ≤ 100 ∧ -100 ≤ tf y l 2 - tf y l 6) (hL : (0 ≤ y 319 ∧ y 319 ≤ 1000000) ∧ 0 ≤ y 320 ∧ y 320 ≤ 1000000) (hQ : ∀ J : Nat → Nat → Int, FO I J b → WV J b (fB y (z 98).toNat) → Q (Sum.inl none) (J, R, L, (SH sT), x, 0, 0)) :
    ∀ (n : Nat) (j : Int) (J : Nat → Nat → Int) (l2 : Option amV), (0 ≤ j ∧ j ≤ z 98 ∧ z 98 - j < n) → FO I J b → WV J b (fB y j.toNat) → X G mX2_fight Q 37 [some (aR (some b)), some (aI j), l2] [] (J, R, L, (SH sT), x, 0, 0) := by
  intro n
  induction n with
  | zero =>
    intros
    exfalso; omega
  | succ n ih =>
    intro j J l2 h1 hF hJ
    have hn1 := hn.1
    have hn2 := hn.2
    have hb1 := wb_le hB
    obtain ⟨f1, f2, f3, f4⟩ := fB_inv (y := y) j.toNat (by omega) (fun l hl => ⟨(hty l (by omega)).1, (hty l (by omega)).2.2.2.2.2.2.1⟩)
    have h98 : fB y j.toNat 98 = z 98 := by rw [f1 98 (by omega)]; exact h98y
    have hs := fB_s y j.toNat
    have hT : j < z 98 → wfT1 y j.toNat := fun u => hty j.toNat (by omega)
    have g0 : j < z 98 → tf (fB y j.toNat) j.toNat 0 = tf y j.toNat 0 := fun u => by rw [f2 _ 0 (by omega) (by decide), if_neg (by omega), if_neg (by omega)]
    have g2 : j < z 98 → tf (fB y j.toNat) j.toNat 2 = tf y j.toNat 2 := fun u => by rw [f2 _ 2 (by omega) (by decide), if_neg (by omega), if_neg (by omega)]
    have g6 : j < z 98 → tf (fB y j.toNat) j.toNat 6 = tf y j.toNat 6 := fun u => by rw [f2 _ 6 (by omega) (by decide), if_neg (by omega), if_neg (by omega)]
    have hSj : j < z 98 → tf y j.toNat 2 - tf y j.toNat 6 ≤ 100 ∧ -100 ≤ tf y j.toNat 2 - tf y j.toNat 6 := fun u => hS j.toNat (by omega)
    refine B_X2_fight_37 ?_
    try dsimp only
    try simp (disch := omega) only [u2_same, u2_ne, wN hJ, wO hJ, wTu hJ, wGi hJ, wMi hJ, wL0 hJ, wL1 hJ, wG0 hJ, wG1 hJ, wT hJ, wH hJ, h98]
    refine ⟨sw0 hB, ?_⟩
    try simp (disch := omega) only [u2_same, u2_ne, wN hJ, wO hJ, wTu hJ, wGi hJ, wMi hJ, wL0 hJ, wL1 hJ, wG0 hJ, wG1 hJ, wT hJ, wH hJ, h98]
    refine ⟨fun c42_0 => ?_, fun c42_0 => ?_⟩
    · refine B_X2_fight_99 ?_
      try dsimp only
      try simp (disch := omega) only [u2_same, u2_ne, wN hJ, wO hJ, wTu hJ, wGi hJ, wMi hJ, wL0 hJ, wL1 hJ, wG0 hJ, wG1 hJ, wT hJ, wH hJ, h98]
      refine ⟨rfl, ?_⟩
      have e : j = z 98 := by omega
      rw [e] at hJ
      exact hQ J hF hJ
    · have hT1 := hT (by omega)
      unfold wfT1 at hT1
      have g0 := g0 (by omega)
      have g2 := g2 (by omega)
      have g6 := g6 (by omega)
      have hSj := hSj (by omega)
      have hls := wLs hJ (s := tf (fB y j.toNat) j.toNat 0) (by omega)
      have hlb : 0 ≤ fB y j.toNat (319 + tf (fB y j.toNat) j.toNat 0).toNat ∧ fB y j.toNat (319 + tf (fB y j.toNat) j.toNat 0).toNat ≤ 1000400 := by
        rcases (by omega : tf (fB y j.toNat) j.toNat 0 = 0 ∨ tf (fB y j.toNat) j.toNat 0 = 1) with e | e
        · rw [e]
          show 0 ≤ fB y j.toNat 319 ∧ fB y j.toNat 319 ≤ 1000400
          omega
        · rw [e]
          show 0 ≤ fB y j.toNat 320 ∧ fB y j.toNat 320 ≤ 1000400
          omega
      refine ⟨sw0 hB, _, hRW.tr, ?_⟩
      refine ⟨_, _, sw4 hB, ⟨by decide, by decide⟩, ⟨by omega, by omega⟩, _, hRW.t (by omega), ?_⟩
      refine ⟨rfl, ?_⟩
      refine ⟨swT hB (by omega), ?_⟩
      try simp (disch := omega) only [u2_same, u2_ne, wN hJ, wO hJ, wTu hJ, wGi hJ, wMi hJ, wL0 hJ, wL1 hJ, wG0 hJ, wG1 hJ, wT hJ, wH hJ, h98]
      refine ⟨swT hB (by omega), ?_⟩
      try simp (disch := omega) only [u2_same, u2_ne, wN hJ, wO hJ, wTu hJ, wGi hJ, wMi hJ, wL0 hJ, wL1 hJ, wG0 hJ, wG1 hJ, wT hJ, wH hJ, h98]
      refine ⟨by (refine ⟨?_, ?_⟩ <;> omega), ?_⟩
      refine ⟨swT hB (by omega), ?_⟩
      try simp (disch := omega) only [u2_same, u2_ne, wN hJ, wO hJ, wTu hJ, wGi hJ, wMi hJ, wL0 hJ, wL1 hJ, wG0 hJ, wG1 hJ, wT hJ, wH hJ, h98]
      refine ⟨sw0 hB, _, hRW.lo, ?_⟩
      refine ⟨swT hB (by omega), ?_⟩
      try simp (disch := omega) only [u2_same, u2_ne, wN hJ, wO hJ, wTu hJ, wGi hJ, wMi hJ, wL0 hJ, wL1 hJ, wG0 hJ, wG1 hJ, wT hJ, wH hJ, h98]
      refine ⟨⟨rfl, rfl⟩, ?_⟩
      refine ⟨_, sw6 hB, ⟨by omega, by omega⟩, ?_⟩
      try simp (disch := omega) only [u2_same, u2_ne, wN hJ, wO hJ, wTu hJ, wGi hJ, wMi hJ, wL0 hJ, wL1 hJ, wG0 hJ, wG1 hJ, wT hJ, wH hJ, h98]
      try simp (disch := omega) only [u2_same, u2_ne, hls]
      try rw [hls]
      refine ⟨swT hB (by omega), ?_⟩
      try simp (disch := omega) only [u2_same, u2_ne, wN hJ, wO hJ, wTu hJ, wGi hJ, wMi hJ, wL0 hJ, wL1 hJ, wG0 hJ, wG1 hJ, wT hJ, wH hJ, h98]
      refine ⟨by (refine ⟨?_, ?_⟩ <;> omega), ?_⟩
      refine ⟨_, sw6 hB, ⟨by omega, by omega⟩, ?_⟩
      try simp (disch := omega) only [u2_same, u2_ne, wN hJ, wO hJ, wTu hJ, wGi hJ, wMi hJ, wL0 hJ, wL1 hJ, wG0 hJ, wG1 hJ, wT hJ, wH hJ, h98]
      refine ⟨swT hB (by omega), ?_⟩
      try simp (disch := omega) only [u2_same, u2_ne, wN hJ, wO hJ, wTu hJ, wGi hJ, wMi hJ, wL0 hJ, wL1 hJ, wG0 hJ, wG1 hJ, wT hJ, wH hJ, h98]
      refine ⟨fun c85_0 => ?_, fun c85_0 => ?_⟩
      · refine B_X2_fight_93 ?_
        try dsimp only
        try simp (disch := omega) only [u2_same, u2_ne, wN hJ, wO hJ, wTu hJ, wGi hJ, wMi hJ, wL0 hJ, wL1 hJ, wG0 hJ, wG1 hJ, wT hJ, wH hJ, h98]
        refine ⟨by (refine ⟨?_, ?_⟩ <;> omega), ?_⟩
        refine ih (j + 1) _ _ (by omega) ?_ ?_
        · first
            | exact FO_u2 (FO_u2 (FO_u2 hF _ _ (by omega)) _ _ (by omega)) _ _ (by omega)
            | exact FO_u2 (FO_u2 hF _ _ (by omega)) _ _ (by omega)
        rw [show (j + 1).toNat = j.toNat + 1 by omega, hs]
        have w1 := WV_t hJ (by omega) (tf (fB y j.toNat) j.toNat 2 - tf (fB y j.toNat) j.toNat 6) (k := j.toNat) (f := 2) (by omega) (by decide)
        have w2 := WV_lo w1 (by rw [uz_ne _ _ (by omega)]; omega) (fB y j.toNat (319 + tf (fB y j.toNat) j.toNat 0).toNat + tf (fB y j.toNat) j.toNat 6) (s := tf (fB y j.toNat) j.toNat 0) (by omega)
        have w3 := fun v => WV_t w2 (by rw [uz_ne _ _ (by omega), uz_ne _ _ (by omega)]; omega) v (k := j.toNat) (f := 4) (by rw [uz_ne _ _ (by omega), uz_ne _ _ (by omega)]; omega) (by decide)
        unfold fB1
        first
          | (have e0 : fB y j.toNat (99 + 8 * j.toNat + 2) - fB y j.toNat (99 + 8 * j.toNat + 6) = 0 := by
               show tf (fB y j.toNat) j.toNat 2 - tf (fB y j.toNat) j.toNat 6 = 0
               omega
             rw [if_pos e0]
             exact w3 2)
          | (have e0 : ¬ fB y j.toNat (99 + 8 * j.toNat + 2) - fB y j.toNat (99 + 8 * j.toNat + 6) = 0 := by
               show ¬ tf (fB y j.toNat) j.toNat 2 - tf (fB y j.toNat) j.toNat 6 = 0
               omega
             rw [if_neg e0]
             have e4 : uz (uz (uz (fB y j.toNat) (99 + 8 * j.toNat + 2) (fB y j.toNat (99 + 8 * j.toNat + 2) - fB y j.toNat (99 + 8 * j.toNat + 6))) (319 + fB y j.toNat (99 + 8 * j.toNat + 0)).toNat (fB y j.toNat (319 + fB y j.toNat (99 + 8 * j.toNat + 0)).toNat + fB y j.toNat (99 + 8 * j.toNat + 6))) (99 + 8 * j.toNat + 4) (fB y j.toNat (99 + 8 * j.toNat + 4)) = uz (uz (fB y j.toNat) (99 + 8 * j.toNat + 2) (fB y j.toNat (99 + 8 * j.toNat + 2) - fB y j.toNat (99 + 8 * j.toNat + 6))) (319 + fB y j.toNat (99 + 8 * j.toNat + 0)).toNat (fB y j.toNat (319 + fB y j.toNat (99 + 8 * j.toNat + 0)).toNat + fB y j.toNat (99 + 8 * j.toNat + 6)) := by
               have h3 : (319 + fB y j.toNat (99 + 8 * j.toNat + 0)).toNat ≠ 99 + 8 * j.toNat + 4 := by
                 show (319 + tf (fB y j.toNat) j.toNat 0).toNat ≠ _
                 omega
               have u4 : uz (uz (fB y j.toNat) (99 + 8 * j.toNat + 2) (fB y j.toNat (99 + 8 * j.toNat + 2) - fB y j.toNat (99 + 8 * j.toNat + 6))) (319 + fB y j.toNat (99 + 8 * j.toNat + 0)).toNat (fB y j.toNat (319 + fB y j.toNat (99 + 8 * j.toNat + 0)).toNat + fB y j.toNat (99 + 8 * j.toNat + 6)) (99 + 8 * j.toNat + 4) = fB y j.toNat (99 + 8 * j.toNat + 4) := by
                 rw [uz_ne _ _ (fun w => h3 w.symm), uz_ne _ _ (by omega)]
               rw [← u4]
               exact uz_self _ _
             rw [e4]
             exact w2)
      · refine ⟨swT hB (by omega), ?_⟩
        try simp (disch := omega) only [u2_same, u2_ne, wN hJ, wO hJ, wTu hJ, wGi hJ, wMi hJ, wL0 hJ, wL1 hJ, wG0 hJ, wG1 hJ, wT hJ, wH hJ, h98]
        refine B_X2_fight_93 ?_
        try dsimp only
        try simp (disch := omega) only [u2_same, u2_ne, wN hJ, wO hJ, wTu hJ, wGi hJ, wMi hJ, wL0 hJ, wL1 hJ, wG0 hJ, wG1 hJ, wT hJ, wH hJ, h98]
        refine ⟨by (refine ⟨?_, ?_⟩ <;> omega), ?_⟩
        refine ih (j + 1) _ _ (by omega) ?_ ?_
        · first
            | exact FO_u2 (FO_u2 (FO_u2 hF _ _ (by omega)) _ _ (by omega)) _ _ (by omega)
            | exact FO_u2 (FO_u2 hF _ _ (by omega)) _ _ (by omega)
        rw [show (j + 1).toNat = j.toNat + 1 by omega, hs]
        have w1 := WV_t hJ (by omega) (tf (fB y j.toNat) j.toNat 2 - tf (fB y j.toNat) j.toNat 6) (k := j.toNat) (f := 2) (by omega) (by decide)
        have w2 := WV_lo w1 (by rw [uz_ne _ _ (by omega)]; omega) (fB y j.toNat (319 + tf (fB y j.toNat) j.toNat 0).toNat + tf (fB y j.toNat) j.toNat 6) (s := tf (fB y j.toNat) j.toNat 0) (by omega)
        have w3 := fun v => WV_t w2 (by rw [uz_ne _ _ (by omega), uz_ne _ _ (by omega)]; omega) v (k := j.toNat) (f := 4) (by rw [uz_ne _ _ (by omega), uz_ne _ _ (by omega)]; omega) (by decide)
        unfold fB1
        first
          | (have e0 : fB y j.toNat (99 + 8 * j.toNat + 2) - fB y j.toNat (99 + 8 * j.toNat + 6) = 0 := by
               show tf (fB y j.toNat) j.toNat 2 - tf (fB y j.toNat) j.toNat 6 = 0
               omega
             rw [if_pos e0]
             exact w3 2)
          | (have e0 : ¬ fB y j.toNat (99 + 8 * j.toNat + 2) - fB y j.toNat (99 + 8 * j.toNat + 6) = 0 := by
               show ¬ tf (fB y j.toNat) j.toNat 2 - tf (fB y j.toNat) j.toNat 6 = 0
               omega
             rw [if_neg e0]
             have e4 : uz (uz (uz (fB y j.toNat) (99 + 8 * j.toNat + 2) (fB y j.toNat (99 + 8 * j.toNat + 2) - fB y j.toNat (99 + 8 * j.toNat + 6))) (319 + fB y j.toNat (99 + 8 * j.toNat + 0)).toNat (fB y j.toNat (319 + fB y j.toNat (99 + 8 * j.toNat + 0)).toNat + fB y j.toNat (99 + 8 * j.toNat + 6))) (99 + 8 * j.toNat + 4) (fB y j.toNat (99 + 8 * j.toNat + 4)) = uz (uz (fB y j.toNat) (99 + 8 * j.toNat + 2) (fB y j.toNat (99 + 8 * j.toNat + 2) - fB y j.toNat (99 + 8 * j.toNat + 6))) (319 + fB y j.toNat (99 + 8 * j.toNat + 0)).toNat (fB y j.toNat (319 + fB y j.toNat (99 + 8 * j.toNat + 0)).toNat + fB y j.toNat (99 + 8 * j.toNat + 6)) := by
               have h3 : (319 + fB y j.toNat (99 + 8 * j.toNat + 0)).toNat ≠ 99 + 8 * j.toNat + 4 := by
                 show (319 + tf (fB y j.toNat) j.toNat 0).toNat ≠ _
                 omega
               have u4 : uz (uz (fB y j.toNat) (99 + 8 * j.toNat + 2) (fB y j.toNat (99 + 8 * j.toNat + 2) - fB y j.toNat (99 + 8 * j.toNat + 6))) (319 + fB y j.toNat (99 + 8 * j.toNat + 0)).toNat (fB y j.toNat (319 + fB y j.toNat (99 + 8 * j.toNat + 0)).toNat + fB y j.toNat (99 + 8 * j.toNat + 6)) (99 + 8 * j.toNat + 4) = fB y j.toNat (99 + 8 * j.toNat + 4) := by
                 rw [uz_ne _ _ (fun w => h3 w.symm), uz_ne _ _ (by omega)]
               rw [← u4]
               exact uz_self _ _
             rw [e4]
             exact w2)
theorem D_fight {G : amG} {I : Nat → Nat → Int} {R : Nat → Nat → Option Nat} {L : Nat → Nat → Int64} {x c t : Nat} {Q : amR → amH → Prop} (hG : amG0 G) {b : Nat} (hB : wb b) (hRW : RW R b) {z : Row} (hW : WV I b z) (hb : wfB z) (hC : wfC z) (hQ : ∀ J : Nat → Nat → Int, FO I J b → WV J b (fightZ z) → Q (Sum.inl none) (J, R, L, (SH sT), x, 0, 0)) : CT G sX2_fight [aR (some b)] (I, R, L, (SH sT), x, c, t) Q := by
  refine CT_of ok_X2_fight hG (Nat.le_of_ble_eq_true rfl) ?_
  show X G mX2_fight Q 0 _ [] (I, R, L, (SH sT), x, 0, 0)
  have hn1 := hb.2.1.1
  have hn2 := hb.2.1.2
  have hb1 := wb_le hB
  refine B_X2_fight_0 ?_
  try dsimp only
  try simp (disch := omega) only [wN hW, wO hW, wTu hW, wGi hW, wMi hW, wL0 hW, wL1 hW, wG0 hW, wG1 hW, wT hW, wH hW]
  refine L_fightC1 hG hB hRW hW hb (fun J hF hJ => ?_) 13 0 I (by omega) (FO_refl I b) hW
  refine B_X2_fight_35 ?_
  try dsimp only
  have hbA := fA_B hb (z 98).toNat
  have hin := fA_inv (z := z) (z 98).toNat
  have h9 := hin.1 319 (by omega)
  have h0 := hin.1 320 (by omega)
  unfold wfC at hC
  exact L_fightC2 hG hB hRW hb.2.1 (fA_N _) hbA.2.2.1 (fun l hl => by have := hbA.2.2.1 l (by rw [fA_N]; exact hl); unfold wfT1 at this; omega) (by omega) (fun K hK wK => hQ K (FO_trans hF hK) wK) 13 0 J none (by omega) (FO_refl J b) hJ
