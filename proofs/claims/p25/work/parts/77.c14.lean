variable {sT : List (Nat × Nat)}
/-! ===== the class: how a war reads when it is written ===== -/
theorem WV_t {I : Nat → Nat → Int} {b : Nat} {z : Row} (h : WV I b z) (hn : z 98 ≤ 12) {k f : Nat} (v : Int) (hk : (k : Int) < z 98) (hf : f < 8) : WV (u2 I (b + 7 + k) f v) b (uz z (99 + 8 * k + f) v) := by
  refine ⟨fun j hj => ?_, ⟨?_, ?_⟩, ?_, ?_, ?_, ?_, ?_, ⟨?_, ?_⟩, fun l g hl hg => ?_⟩
  · rw [u2_off _ _ _ (by omega), uz_ne _ _ (by omega)]; exact wH h j hj
  · rw [u2_off _ _ _ (by omega), uz_ne _ _ (by omega)]; exact wG0 h
  · rw [u2_off _ _ _ (by omega), uz_ne _ _ (by omega)]; exact wG1 h
  · rw [u2_off _ _ _ (by omega), uz_ne _ _ (by omega)]; exact wN h
  · rw [u2_off _ _ _ (by omega), uz_ne _ _ (by omega)]; exact wO h
  · rw [u2_off _ _ _ (by omega), uz_ne _ _ (by omega)]; exact wTu h
  · rw [u2_off _ _ _ (by omega), uz_ne _ _ (by omega)]; exact wGi h
  · rw [u2_off _ _ _ (by omega), uz_ne _ _ (by omega)]; exact wMi h
  · rw [u2_off _ _ _ (by omega), uz_ne _ _ (by omega)]; exact wL0 h
  · rw [u2_off _ _ _ (by omega), uz_ne _ _ (by omega)]; exact wL1 h
  · rw [uz_ne _ _ (by omega)] at hl
    rw [tf_uz hf hg]
    by_cases e : l = k ∧ g = f
    · rw [if_pos e, e.1, e.2, u2_same]
    · rw [if_neg e, u2_ne _ _ (by omega)]
      exact wT h l g hl hg
theorem WV_mi {I : Nat → Nat → Int} {b : Nat} {z : Row} (h : WV I b z) (hn : z 98 ≤ 12) (v : Int) : WV (u2 I b 8 v) b (uz z 318 v) := by
  refine ⟨fun j hj => ?_, ⟨?_, ?_⟩, ?_, ?_, ?_, ?_, ?_, ⟨?_, ?_⟩, fun l g hl hg => ?_⟩
  · rw [u2_off _ _ _ (by omega), uz_ne _ _ (by omega)]; exact wH h j hj
  · rw [u2_off _ _ _ (by omega), uz_ne _ _ (by omega)]; exact wG0 h
  · rw [u2_off _ _ _ (by omega), uz_ne _ _ (by omega)]; exact wG1 h
  · rw [u2_ne _ _ (by omega), uz_ne _ _ (by omega)]; exact wN h
  · rw [u2_ne _ _ (by omega), uz_ne _ _ (by omega)]; exact wO h
  · rw [u2_ne _ _ (by omega), uz_ne _ _ (by omega)]; exact wTu h
  · rw [u2_ne _ _ (by omega), uz_ne _ _ (by omega)]; exact wGi h
  · rw [u2_same, uz_same]
  · rw [u2_off _ _ _ (by omega), uz_ne _ _ (by omega)]; exact wL0 h
  · rw [u2_off _ _ _ (by omega), uz_ne _ _ (by omega)]; exact wL1 h
  · rw [uz_ne _ _ (by omega)] at hl
    rw [tf_off (by omega) (by omega) hg, u2_off _ _ _ (by omega)]
    exact wT h l g hl hg
theorem WV_tu {I : Nat → Nat → Int} {b : Nat} {z : Row} (h : WV I b z) (hn : z 98 ≤ 12) (v : Int) : WV (u2 I b 6 v) b (uz z 316 v) := by
  refine ⟨fun j hj => ?_, ⟨?_, ?_⟩, ?_, ?_, ?_, ?_, ?_, ⟨?_, ?_⟩, fun l g hl hg => ?_⟩
  · rw [u2_off _ _ _ (by omega), uz_ne _ _ (by omega)]; exact wH h j hj
  · rw [u2_off _ _ _ (by omega), uz_ne _ _ (by omega)]; exact wG0 h
  · rw [u2_off _ _ _ (by omega), uz_ne _ _ (by omega)]; exact wG1 h
  · rw [u2_ne _ _ (by omega), uz_ne _ _ (by omega)]; exact wN h
  · rw [u2_ne _ _ (by omega), uz_ne _ _ (by omega)]; exact wO h
  · rw [u2_same, uz_same]
  · rw [u2_ne _ _ (by omega), uz_ne _ _ (by omega)]; exact wGi h
  · rw [u2_ne _ _ (by omega), uz_ne _ _ (by omega)]; exact wMi h
  · rw [u2_off _ _ _ (by omega), uz_ne _ _ (by omega)]; exact wL0 h
  · rw [u2_off _ _ _ (by omega), uz_ne _ _ (by omega)]; exact wL1 h
  · rw [uz_ne _ _ (by omega)] at hl
    rw [tf_off (by omega) (by omega) hg, u2_off _ _ _ (by omega)]
    exact wT h l g hl hg
theorem WV_lo {I : Nat → Nat → Int} {b : Nat} {z : Row} (h : WV I b z) (hn : z 98 ≤ 12) (v : Int) {s : Int} (hs : 0 ≤ s ∧ s ≤ 1) : WV (u2 I (b + 6) s.toNat v) b (uz z (319 + s).toNat v) := by
  refine ⟨fun j hj => ?_, ⟨?_, ?_⟩, ?_, ?_, ?_, ?_, ?_, ⟨?_, ?_⟩, fun l g hl hg => ?_⟩
  · rw [u2_off _ _ _ (by omega), uz_ne _ _ (by omega)]; exact wH h j hj
  · rw [u2_off _ _ _ (by omega), uz_ne _ _ (by omega)]; exact wG0 h
  · rw [u2_off _ _ _ (by omega), uz_ne _ _ (by omega)]; exact wG1 h
  · rw [u2_off _ _ _ (by omega), uz_ne _ _ (by omega)]; exact wN h
  · rw [u2_off _ _ _ (by omega), uz_ne _ _ (by omega)]; exact wO h
  · rw [u2_off _ _ _ (by omega), uz_ne _ _ (by omega)]; exact wTu h
  · rw [u2_off _ _ _ (by omega), uz_ne _ _ (by omega)]; exact wGi h
  · rw [u2_off _ _ _ (by omega), uz_ne _ _ (by omega)]; exact wMi h
  · rcases (by omega : s = 0 ∨ s = 1) with e | e <;> subst e
    · rw [show (0 : Int).toNat = 0 from rfl, show (319 + (0 : Int)).toNat = 319 from rfl, u2_same, uz_same]
    · rw [u2_ne _ _ (by omega), uz_ne _ _ (by omega)]; exact wL0 h
  · rcases (by omega : s = 0 ∨ s = 1) with e | e <;> subst e
    · rw [u2_ne _ _ (by omega), uz_ne _ _ (by omega)]; exact wL1 h
    · rw [show (1 : Int).toNat = 1 from rfl, show (319 + (1 : Int)).toNat = 320 from rfl, u2_same, uz_same]
  · rw [uz_ne _ _ (by omega)] at hl
    rw [tf_off (by omega) (by omega) hg, u2_off _ _ _ (by omega)]
    exact wT h l g hl hg
theorem WV_ge {I : Nat → Nat → Int} {b : Nat} {z : Row} (h : WV I b z) (hn : z 98 ≤ 12) (v : Int) {s : Int} (hs : 0 ≤ s ∧ s ≤ 1) : WV (u2 I (b + 3) s.toNat v) b (uz z (96 + s).toNat v) := by
  refine ⟨fun j hj => ?_, ⟨?_, ?_⟩, ?_, ?_, ?_, ?_, ?_, ⟨?_, ?_⟩, fun l g hl hg => ?_⟩
  · rw [u2_off _ _ _ (by omega), uz_ne _ _ (by omega)]; exact wH h j hj
  · rcases (by omega : s = 0 ∨ s = 1) with e | e <;> subst e
    · rw [show (0 : Int).toNat = 0 from rfl, show (96 + (0 : Int)).toNat = 96 from rfl, u2_same, uz_same]
    · rw [u2_ne _ _ (by omega), uz_ne _ _ (by omega)]; exact wG0 h
  · rcases (by omega : s = 0 ∨ s = 1) with e | e <;> subst e
    · rw [u2_ne _ _ (by omega), uz_ne _ _ (by omega)]; exact wG1 h
    · rw [show (1 : Int).toNat = 1 from rfl, show (96 + (1 : Int)).toNat = 97 from rfl, u2_same, uz_same]
  · rw [u2_off _ _ _ (by omega), uz_ne _ _ (by omega)]; exact wN h
  · rw [u2_off _ _ _ (by omega), uz_ne _ _ (by omega)]; exact wO h
  · rw [u2_off _ _ _ (by omega), uz_ne _ _ (by omega)]; exact wTu h
  · rw [u2_off _ _ _ (by omega), uz_ne _ _ (by omega)]; exact wGi h
  · rw [u2_off _ _ _ (by omega), uz_ne _ _ (by omega)]; exact wMi h
  · rw [u2_off _ _ _ (by omega), uz_ne _ _ (by omega)]; exact wL0 h
  · rw [u2_off _ _ _ (by omega), uz_ne _ _ (by omega)]; exact wL1 h
  · rw [uz_ne _ _ (by omega)] at hl
    unfold tf
    rw [uz_ne _ _ (by omega), u2_off _ _ _ (by omega)]
    exact wT h l g hl hg
theorem WV_he {I : Nat → Nat → Int} {b : Nat} {z : Row} (h : WV I b z) (hn : z 98 ≤ 12) (v : Int) {c : Nat} (hc : c < 96) : WV (u2 I (b + 2) c v) b (uz z c v) := by
  refine ⟨fun j hj => ?_, ⟨?_, ?_⟩, ?_, ?_, ?_, ?_, ?_, ⟨?_, ?_⟩, fun l g hl hg => ?_⟩
  · by_cases e : j = c
    · rw [e, u2_same, uz_same]
    · rw [u2_ne _ _ (by omega), uz_ne _ _ e]; exact wH h j hj
  · rw [u2_off _ _ _ (by omega), uz_ne _ _ (by omega)]; exact wG0 h
  · rw [u2_off _ _ _ (by omega), uz_ne _ _ (by omega)]; exact wG1 h
  · rw [u2_off _ _ _ (by omega), uz_ne _ _ (by omega)]; exact wN h
  · rw [u2_off _ _ _ (by omega), uz_ne _ _ (by omega)]; exact wO h
  · rw [u2_off _ _ _ (by omega), uz_ne _ _ (by omega)]; exact wTu h
  · rw [u2_off _ _ _ (by omega), uz_ne _ _ (by omega)]; exact wGi h
  · rw [u2_off _ _ _ (by omega), uz_ne _ _ (by omega)]; exact wMi h
  · rw [u2_off _ _ _ (by omega), uz_ne _ _ (by omega)]; exact wL0 h
  · rw [u2_off _ _ _ (by omega), uz_ne _ _ (by omega)]; exact wL1 h
  · rw [uz_ne _ _ (by omega)] at hl
    rw [tf_off (by omega) (by omega) hg, u2_off _ _ _ (by omega)]
    exact wT h l g hl hg
theorem seN_s (z : Row) (k n : Nat) : seN z k (n + 1) = if seN z k n = 1 ∨ (tf z n 4 ≠ 2 ∧ tf z n 0 ≠ tf z k 0 ∧ seeI z (tf z k 1) (tf z n 1) = 1) then 1 else 0 := rfl
theorem seN_up (z : Row) (k : Nat) {m : Nat} (h : seN z k m = 1) : ∀ n : Nat, m ≤ n → seN z k n = 1 := by
  intro n
  induction n with
  | zero => intro hm; rw [show m = 0 by omega] at h; exact h
  | succ n ih =>
    intro hm
    rcases Nat.lt_or_ge n m with q | q
    · rw [show n + 1 = m by omega]; exact h
    · rw [seN_s, if_pos (Or.inl (ih q))]
theorem lsN_s (z : Row) (k n : Nat) : lsN z k (n + 1) = lsN z k n + (if nb (tf z k 1) n ≠ -1 ∧ tAt z (nb (tf z k 1) n) ≠ -1 ∧ tf z (tAt z (nb (tf z k 1) n)).toNat 0 ≠ tf z k 0 then (if z (tf z k 1).toNat < z (nb (tf z k 1) n).toNat then 2 else 1) else 0) := rfl
/-! ===== the class: what is seen and lost ===== -/
theorem L_seesEnemyC {G : amG} {I : Nat → Nat → Int} {R : Nat → Nat → Option Nat} {L : Nat → Nat → Int64} {x : Nat} {Q : amR → amH → Prop} (hG : amG0 G) {b : Nat} (hB : wb b) (hRW : RW R b) {z : Row} (hW : WV I b z) (hb : wfB z) {k : Int} (hk : 0 ≤ k ∧ k < z 98) (hQ : Q (Sum.inl (some (aI (seN z k.toNat (z 98).toNat)))) (I, R, L, (SH sT), x, 0, 0)) :
    ∀ (n : Nat) (j : Int) (l3 : Option amV), (0 ≤ j ∧ j ≤ z 98 ∧ z 98 - j < n) → seN z k.toNat j.toNat = 0 → X G mX2_seesEnemy Q 2 [some (aR (some b)), some (aR (some (b + 7 + k.toNat))), some (aI j), l3] [] (I, R, L, (SH sT), x, 0, 0) := by
  intro n
  induction n with
  | zero =>
    intros
    exfalso; omega
  | succ n ih =>
    intro j l3 h1 hs
    have hn1 := hb.2.1.1
    have hn2 := hb.2.1.2
    have hb1 := wb_le hB
    have hT := hb.2.2.1 k.toNat (by omega)
    have hT' := hT
    unfold wfT1 at hT'
    have hc1 : isC (tf z k.toNat 1) := by unfold isC; omega
    have hss := seN_s z k.toNat j.toNat
    refine B_X2_seesEnemy_2 ?_
    try dsimp only
    try simp (disch := omega) only [wN hW, wO hW, wTu hW, wGi hW, wMi hW, wL0 hW, wL1 hW, wG0 hW, wG1 hW, wT hW, wH hW]
    refine ⟨sw0 hB, ?_⟩
    try simp (disch := omega) only [wN hW, wO hW, wTu hW, wGi hW, wMi hW, wL0 hW, wL1 hW, wG0 hW, wG1 hW, wT hW, wH hW]
    refine ⟨fun c7_0 => ?_, fun c7_0 => ?_⟩
    · refine B_X2_seesEnemy_51 ?_
      try dsimp only
      try simp (disch := omega) only [wN hW, wO hW, wTu hW, wGi hW, wMi hW, wL0 hW, wL1 hW, wG0 hW, wG1 hW, wT hW, wH hW]
      refine ⟨by first | exact Or.inl rfl | exact Or.inr rfl | exact Or.inl trivial | exact Or.inr trivial | omega, ?_⟩
      first
        | (have e : seN z k.toNat (z 98).toNat = 0 := by rw [show (z 98).toNat = j.toNat by omega]; exact hs
           rw [e] at hQ
           exact hQ)
        | (rw [if_pos (Or.inr ⟨by omega, by omega, by omega⟩)] at hss
           rw [seN_up z k.toNat hss (z 98).toNat (by omega)] at hQ
           exact hQ)
    · refine ⟨sw0 hB, _, hRW.tr, ?_⟩
      refine ⟨_, _, sw4 hB, ⟨by decide, by decide⟩, ⟨by omega, by omega⟩, _, hRW.t (by omega), ?_⟩
      refine ⟨⟨Nat.zero_le _, Nat.zero_le _, Nat.le_of_ble_eq_true rfl⟩, swT hB (by omega), ?_⟩
      have hTj := hb.2.2.1 j.toNat (by omega)
      unfold wfT1 at hTj
      refine D_isEnemyOf hG hB hRW hW hb (k := j) (l := k) (by omega) hk (fun r hr => ?_)
      refine af_I0 rfl rfl (by decide) ?_
      try dsimp only
      try simp (disch := omega) only [wN hW, wO hW, wTu hW, wGi hW, wMi hW, wL0 hW, wL1 hW, wG0 hW, wG1 hW, wT hW, wH hW]
      refine B_X2_seesEnemy_22 ?_
      try dsimp only
      try simp (disch := omega) only [wN hW, wO hW, wTu hW, wGi hW, wMi hW, wL0 hW, wL1 hW, wG0 hW, wG1 hW, wT hW, wH hW]
      refine ⟨fun c22_1 => ?_, fun c22_1 => ?_⟩
      · refine B_X2_seesEnemy_45 ?_
        try dsimp only
        try simp (disch := omega) only [wN hW, wO hW, wTu hW, wGi hW, wMi hW, wL0 hW, wL1 hW, wG0 hW, wG1 hW, wT hW, wH hW]
        refine ⟨by (refine ⟨?_, ?_⟩ <;> omega), ?_⟩
        refine ih (j + 1) _ (by omega) ?_
        rw [show (j + 1).toNat = j.toNat + 1 by omega, hss]
        exact if_neg (by omega)
      · refine ⟨sw0 hB, _, hRW.te, ?_⟩
        refine ⟨swT hB (by omega), ?_⟩
        try simp (disch := omega) only [wN hW, wO hW, wTu hW, wGi hW, wMi hW, wL0 hW, wL1 hW, wG0 hW, wG1 hW, wT hW, wH hW]
        refine ⟨swT hB (by omega), ?_⟩
        try simp (disch := omega) only [wN hW, wO hW, wTu hW, wGi hW, wMi hW, wL0 hW, wL1 hW, wG0 hW, wG1 hW, wT hW, wH hW]
        refine ⟨⟨Nat.zero_le _, Nat.zero_le _, Nat.le_of_ble_eq_true rfl⟩, sw1 hB, ?_⟩
        refine D_inSight hG hB hRW (wH hW) hb.1 hc1 (w := tf z j.toNat 1) (by unfold isC; omega) (fun r2 hr2 => ?_)
        have hs4 : (seeI z (tf z k.toNat 1) (tf z j.toNat 1) = 1 ∧ r2 = 1) ∨ (seeI z (tf z k.toNat 1) (tf z j.toNat 1) = 0 ∧ r2 = 0) := hr2.imp (fun q => ⟨seeI_one q.1, q.2⟩) (fun q => ⟨seeI_zero q.1, q.2⟩)
        refine af_I0 rfl rfl (by decide) ?_
        try dsimp only
        try simp (disch := omega) only [wN hW, wO hW, wTu hW, wGi hW, wMi hW, wL0 hW, wL1 hW, wG0 hW, wG1 hW, wT hW, wH hW]
        refine B_X2_seesEnemy_40 ?_
        try dsimp only
        try simp (disch := omega) only [wN hW, wO hW, wTu hW, wGi hW, wMi hW, wL0 hW, wL1 hW, wG0 hW, wG1 hW, wT hW, wH hW]
        refine ⟨fun c40_2 => ?_, fun c40_2 => ?_⟩
        · refine B_X2_seesEnemy_45 ?_
          try dsimp only
          try simp (disch := omega) only [wN hW, wO hW, wTu hW, wGi hW, wMi hW, wL0 hW, wL1 hW, wG0 hW, wG1 hW, wT hW, wH hW]
          refine ⟨by (refine ⟨?_, ?_⟩ <;> omega), ?_⟩
          refine ih (j + 1) _ (by omega) ?_
          rw [show (j + 1).toNat = j.toNat + 1 by omega, hss]
          exact if_neg (by omega)
        · refine ⟨by first | exact Or.inl rfl | exact Or.inr rfl | exact Or.inl trivial | exact Or.inr trivial | omega, ?_⟩
          first
            | (have e : seN z k.toNat (z 98).toNat = 0 := by rw [show (z 98).toNat = j.toNat by omega]; exact hs
               rw [e] at hQ
               exact hQ)
            | (rw [if_pos (Or.inr ⟨by omega, by omega, by omega⟩)] at hss
               rw [seN_up z k.toNat hss (z 98).toNat (by omega)] at hQ
               exact hQ)
theorem D_seesEnemy {G : amG} {I : Nat → Nat → Int} {R : Nat → Nat → Option Nat} {L : Nat → Nat → Int64} {x c t : Nat} {Q : amR → amH → Prop} (hG : amG0 G) {b : Nat} (hB : wb b) (hRW : RW R b) {z : Row} (hW : WV I b z) (hb : wfB z) {k : Int} (hk : 0 ≤ k ∧ k < z 98) (hQ : Q (Sum.inl (some (aI (seN z k.toNat (z 98).toNat)))) (I, R, L, (SH sT), x, 0, 0)) : CT G sX2_seesEnemy [aR (some b), aR (some (b + 7 + k.toNat))] (I, R, L, (SH sT), x, c, t) Q := by
  refine CT_of ok_X2_seesEnemy hG (Nat.le_of_ble_eq_true rfl) ?_
  show X G mX2_seesEnemy Q 0 _ [] (I, R, L, (SH sT), x, 0, 0)
  have hn1 := hb.2.1.1
  have hn2 := hb.2.1.2
  have hb1 := wb_le hB
  refine B_X2_seesEnemy_0 ?_
  try dsimp only
  try simp (disch := omega) only [wN hW, wO hW, wTu hW, wGi hW, wMi hW, wL0 hW, wL1 hW, wG0 hW, wG1 hW, wT hW, wH hW]
  exact L_seesEnemyC hG hB hRW hW hb hk hQ 13 0 none (by omega) rfl
theorem L_lossOf {G : amG} {I : Nat → Nat → Int} {R : Nat → Nat → Option Nat} {L : Nat → Nat → Int64} {x : Nat} {Q : amR → amH → Prop} (hG : amG0 G) {b : Nat} (hB : wb b) (hRW : RW R b) {z : Row} (hW : WV I b z) (hb : wfB z) {k : Int} (hk : 0 ≤ k ∧ k < z 98) (hQ : Q (Sum.inl (some (aI (lossZ z k.toNat)))) (I, R, L, (SH sT), x, 0, 0)) :
    ∀ (n : Nat) (d s : Int) (l4 l5 : Option amV), (0 ≤ d ∧ d ≤ 4 ∧ 4 - d < n) → s = lsN z k.toNat d.toNat → X G mX2_lossOf Q 4 [some (aR (some b)), some (aR (some (b + 7 + k.toNat))), some (aI s), some (aI d), l4, l5] [] (I, R, L, (SH sT), x, 0, 0) := by
  intro n
  induction n with
  | zero =>
    intros
    exfalso; omega
  | succ n ih =>
    intro d s l4 l5 h1 hs
    have hn1 := hb.2.1.1
    have hn2 := hb.2.1.2
    have hb1 := wb_le hB
    have hT := hb.2.2.1 k.toNat (by omega)
    have hT' := hT
    unfold wfT1 at hT'
    have hc1 : isC (tf z k.toNat 1) := by unfold isC; omega
    have hbd := lsN_b z k.toNat d.toNat
    have hc1' : 0 ≤ tf z k.toNat 1 ∧ tf z k.toNat 1 < 96 := hc1
    have hss := lsN_s z k.toNat d.toNat
    rw [Int.toNat_of_nonneg h1.1] at hss
    have hS := (hb.2.2.2.2.2 k.toNat (by omega)).1
    refine B_X2_lossOf_4 ?_
    try dsimp only
    try simp (disch := omega) only [wN hW, wO hW, wTu hW, wGi hW, wMi hW, wL0 hW, wL1 hW, wG0 hW, wG1 hW, wT hW, wH hW]
    refine ⟨fun c6_0 => ?_, fun c6_0 => ?_⟩
    · refine B_X2_lossOf_96 ?_
      try dsimp only
      try simp (disch := omega) only [wN hW, wO hW, wTu hW, wGi hW, wMi hW, wL0 hW, wL1 hW, wG0 hW, wG1 hW, wT hW, wH hW]
      refine ⟨swT hB (by omega), ?_⟩
      try simp (disch := omega) only [wN hW, wO hW, wTu hW, wGi hW, wMi hW, wL0 hW, wL1 hW, wG0 hW, wG1 hW, wT hW, wH hW]
      refine ⟨Nat.le_of_ble_eq_true rfl, ?_⟩
      have e4 : d.toNat = 4 := by omega
      rw [e4] at hs hbd
      unfold lossZ at hQ
      rw [← hs] at hQ
      have e : (if tf z k.toNat 2 < s then tf z k.toNat 2 else s) = (if tf z k.toNat 4 = 2 then 0 else if s < tf z k.toNat 2 then s else tf z k.toNat 2) := by
        split <;> split <;> (try split) <;> omega
      rw [e]
      exact hQ
    · refine ⟨swT hB (by omega), ?_⟩
      try simp (disch := omega) only [wN hW, wO hW, wTu hW, wGi hW, wMi hW, wL0 hW, wL1 hW, wG0 hW, wG1 hW, wT hW, wH hW]
      refine ⟨⟨Nat.zero_le _, Nat.zero_le _, Nat.le_of_ble_eq_true rfl⟩, trivial, ?_⟩
      refine D_neighbour hG hc1' ⟨h1.1, by omega⟩ (fun r hr => ?_)
      have b1 := nb_cell hc1 (d := d) ⟨h1.1, by omega⟩
      rw [← hr] at b1 hss
      have hc2 : r = -1 ∨ (0 ≤ r ∧ r < 96) := b1
      refine af_I0 rfl rfl (by decide) ?_
      try dsimp only
      try simp (disch := omega) only [wN hW, wO hW, wTu hW, wGi hW, wMi hW, wL0 hW, wL1 hW, wG0 hW, wG1 hW, wT hW, wH hW]
      refine B_X2_lossOf_17 ?_
      try dsimp only
      try simp (disch := omega) only [wN hW, wO hW, wTu hW, wGi hW, wMi hW, wL0 hW, wL1 hW, wG0 hW, wG1 hW, wT hW, wH hW]
      refine ⟨fun c22_1 => ?_, fun c22_1 => ?_⟩
      · refine B_X2_lossOf_29 ?_
        try dsimp only
        try simp (disch := omega) only [wN hW, wO hW, wTu hW, wGi hW, wMi hW, wL0 hW, wL1 hW, wG0 hW, wG1 hW, wT hW, wH hW]
        refine ⟨⟨Nat.zero_le _, Nat.zero_le _, Nat.le_of_ble_eq_true rfl⟩, sw0 hB, ?_⟩
        refine D_troopIn hG hB hRW hW hb ?_
        have hta : -1 ≤ tAt z r ∧ tAt z r < ((z 98).toNat : Nat) := tA_lt z r (z 98).toNat
        refine af_I0 rfl rfl (by decide) ?_
        try dsimp only
        try simp (disch := omega) only [wN hW, wO hW, wTu hW, wGi hW, wMi hW, wL0 hW, wL1 hW, wG0 hW, wG1 hW, wT hW, wH hW]
        refine B_X2_lossOf_35 ?_
        try dsimp only
        try simp (disch := omega) only [wN hW, wO hW, wTu hW, wGi hW, wMi hW, wL0 hW, wL1 hW, wG0 hW, wG1 hW, wT hW, wH hW]
        refine ⟨fun c40_3 => ?_, fun c40_3 => ?_⟩
        · refine B_X2_lossOf_90 ?_
          try dsimp only
          try simp (disch := omega) only [wN hW, wO hW, wTu hW, wGi hW, wMi hW, wL0 hW, wL1 hW, wG0 hW, wG1 hW, wT hW, wH hW]
          refine ⟨by (refine ⟨?_, ?_⟩ <;> omega), ?_⟩
          refine ih (d + 1) _ _ _ (by omega) ?_
          rw [show (d + 1).toNat = d.toNat + 1 by omega, hss]
          first
            | (rw [if_neg (by omega)]; omega)
            | (rw [if_pos ⟨by omega, by assumption, by omega⟩, if_pos (by omega)]; omega)
            | (rw [if_pos ⟨by omega, by assumption, by omega⟩, if_neg (by omega)]; omega)
        · first
            | (exfalso; omega)
            | exact absurd True.intro (by assumption)
            | (refine ⟨sw0 hB, _, hRW.tr, ?_⟩
               refine ⟨_, _, sw4 hB, ⟨by decide, by decide⟩, ⟨by omega, by omega⟩, _, hRW.t (by omega), ?_⟩
               refine ⟨⟨Nat.zero_le _, Nat.zero_le _, Nat.le_of_ble_eq_true rfl⟩, swT hB (by omega), ?_⟩
               have hso := tA_some (z := z) (c := r) (n := (z 98).toNat) (by assumption)
               obtain ⟨l, l1, l2, l3, l4'⟩ := hso
               have l2b : tAt z r = (l : Int) := l2
               have lt : (tAt z r).toNat = l := by omega
               refine D_isEnemyOf hG hB hRW hW hb (k := tAt z r) (l := k) (by omega) hk (fun r2 hr2 => ?_)
               rw [lt] at hr2 hss
               refine af_I0 rfl rfl (by decide) ?_
               try dsimp only
               try simp (disch := omega) only [wN hW, wO hW, wTu hW, wGi hW, wMi hW, wL0 hW, wL1 hW, wG0 hW, wG1 hW, wT hW, wH hW]
               refine B_X2_lossOf_54 ?_
               try dsimp only
               try simp (disch := omega) only [wN hW, wO hW, wTu hW, wGi hW, wMi hW, wL0 hW, wL1 hW, wG0 hW, wG1 hW, wT hW, wH hW]
               refine ⟨fun c54_4 => ?_, fun c54_4 => ?_⟩
               · refine B_X2_lossOf_90 ?_
                 try dsimp only
                 try simp (disch := omega) only [wN hW, wO hW, wTu hW, wGi hW, wMi hW, wL0 hW, wL1 hW, wG0 hW, wG1 hW, wT hW, wH hW]
                 refine ⟨by (refine ⟨?_, ?_⟩ <;> omega), ?_⟩
                 refine ih (d + 1) _ _ _ (by omega) ?_
                 rw [show (d + 1).toNat = d.toNat + 1 by omega, hss]
                 first
                   | (rw [if_neg (by omega)]; omega)
                   | (rw [if_pos ⟨by omega, by assumption, by omega⟩, if_pos (by omega)]; omega)
                   | (rw [if_pos ⟨by omega, by assumption, by omega⟩, if_neg (by omega)]; omega)
               · refine ⟨sw0 hB, _, hRW.te, ?_⟩
                 refine ⟨sw1 hB, _, hRW.ht, ?_⟩
                 refine ⟨_, sw2 hB, ⟨by omega, by omega⟩, ?_⟩
                 try simp (disch := omega) only [wN hW, wO hW, wTu hW, wGi hW, wMi hW, wL0 hW, wL1 hW, wG0 hW, wG1 hW, wT hW, wH hW]
                 refine ⟨sw0 hB, _, hRW.te, ?_⟩
                 refine ⟨sw1 hB, _, hRW.ht, ?_⟩
                 refine ⟨swT hB (by omega), ?_⟩
                 try simp (disch := omega) only [wN hW, wO hW, wTu hW, wGi hW, wMi hW, wL0 hW, wL1 hW, wG0 hW, wG1 hW, wT hW, wH hW]
                 refine ⟨_, sw2 hB, ⟨by omega, by omega⟩, ?_⟩
                 try simp (disch := omega) only [wN hW, wO hW, wTu hW, wGi hW, wMi hW, wL0 hW, wL1 hW, wG0 hW, wG1 hW, wT hW, wH hW]
                 refine ⟨fun c80_4 => ?_, fun c80_4 => ?_⟩
                 · refine B_X2_lossOf_87 ?_
                   try dsimp only
                   try simp (disch := omega) only [wN hW, wO hW, wTu hW, wGi hW, wMi hW, wL0 hW, wL1 hW, wG0 hW, wG1 hW, wT hW, wH hW]
                   refine B_X2_lossOf_88 ?_
                   try dsimp only
                   try simp (disch := omega) only [wN hW, wO hW, wTu hW, wGi hW, wMi hW, wL0 hW, wL1 hW, wG0 hW, wG1 hW, wT hW, wH hW]
                   refine ⟨by (refine ⟨?_, ?_⟩ <;> omega), ?_⟩
                   refine B_X2_lossOf_90 ?_
                   try dsimp only
                   try simp (disch := omega) only [wN hW, wO hW, wTu hW, wGi hW, wMi hW, wL0 hW, wL1 hW, wG0 hW, wG1 hW, wT hW, wH hW]
                   refine ⟨by (refine ⟨?_, ?_⟩ <;> omega), ?_⟩
                   refine ih (d + 1) _ _ _ (by omega) ?_
                   rw [show (d + 1).toNat = d.toNat + 1 by omega, hss]
                   first
                     | (rw [if_neg (by omega)]; omega)
                     | (rw [if_pos ⟨by omega, by assumption, by omega⟩, if_pos (by omega)]; omega)
                     | (rw [if_pos ⟨by omega, by assumption, by omega⟩, if_neg (by omega)]; omega)
                 · refine B_X2_lossOf_88 ?_
                   try dsimp only
                   try simp (disch := omega) only [wN hW, wO hW, wTu hW, wGi hW, wMi hW, wL0 hW, wL1 hW, wG0 hW, wG1 hW, wT hW, wH hW]
                   refine ⟨by (refine ⟨?_, ?_⟩ <;> omega), ?_⟩
                   refine B_X2_lossOf_90 ?_
                   try dsimp only
                   try simp (disch := omega) only [wN hW, wO hW, wTu hW, wGi hW, wMi hW, wL0 hW, wL1 hW, wG0 hW, wG1 hW, wT hW, wH hW]
                   refine ⟨by (refine ⟨?_, ?_⟩ <;> omega), ?_⟩
                   refine ih (d + 1) _ _ _ (by omega) ?_
                   rw [show (d + 1).toNat = d.toNat + 1 by omega, hss]
                   first
                     | (rw [if_neg (by omega)]; omega)
                     | (rw [if_pos ⟨by omega, by assumption, by omega⟩, if_pos (by omega)]; omega)
                     | (rw [if_pos ⟨by omega, by assumption, by omega⟩, if_neg (by omega)]; omega))
      · refine B_X2_lossOf_35 ?_
        try dsimp only
        try simp (disch := omega) only [wN hW, wO hW, wTu hW, wGi hW, wMi hW, wL0 hW, wL1 hW, wG0 hW, wG1 hW, wT hW, wH hW]
        refine ⟨fun c40_2 => ?_, fun c40_2 => ?_⟩
        · refine B_X2_lossOf_90 ?_
          try dsimp only
          try simp (disch := omega) only [wN hW, wO hW, wTu hW, wGi hW, wMi hW, wL0 hW, wL1 hW, wG0 hW, wG1 hW, wT hW, wH hW]
          refine ⟨by (refine ⟨?_, ?_⟩ <;> omega), ?_⟩
          refine ih (d + 1) _ _ _ (by omega) ?_
          rw [show (d + 1).toNat = d.toNat + 1 by omega, hss]
          first
            | (rw [if_neg (by omega)]; omega)
            | (rw [if_pos ⟨by omega, by assumption, by omega⟩, if_pos (by omega)]; omega)
            | (rw [if_pos ⟨by omega, by assumption, by omega⟩, if_neg (by omega)]; omega)
        · first
            | (exfalso; omega)
            | exact absurd True.intro (by assumption)
            | (refine ⟨sw0 hB, _, hRW.tr, ?_⟩
               refine ⟨_, _, sw4 hB, ⟨by decide, by decide⟩, ⟨by omega, by omega⟩, _, hRW.t (by omega), ?_⟩
               refine ⟨⟨Nat.zero_le _, Nat.zero_le _, Nat.le_of_ble_eq_true rfl⟩, swT hB (by omega), ?_⟩
               have hso := tA_some (z := z) (c := r) (n := (z 98).toNat) (by assumption)
               obtain ⟨l, l1, l2, l3, l4'⟩ := hso
               have l2b : tAt z r = (l : Int) := l2
               have lt : (tAt z r).toNat = l := by omega
               refine D_isEnemyOf hG hB hRW hW hb (k := tAt z r) (l := k) (by omega) hk (fun r2 hr2 => ?_)
               rw [lt] at hr2 hss
               refine af_I0 rfl rfl (by decide) ?_
               try dsimp only
               try simp (disch := omega) only [wN hW, wO hW, wTu hW, wGi hW, wMi hW, wL0 hW, wL1 hW, wG0 hW, wG1 hW, wT hW, wH hW]
               refine B_X2_lossOf_54 ?_
               try dsimp only
               try simp (disch := omega) only [wN hW, wO hW, wTu hW, wGi hW, wMi hW, wL0 hW, wL1 hW, wG0 hW, wG1 hW, wT hW, wH hW]
               refine ⟨fun c54_3 => ?_, fun c54_3 => ?_⟩
               · refine B_X2_lossOf_90 ?_
                 try dsimp only
                 try simp (disch := omega) only [wN hW, wO hW, wTu hW, wGi hW, wMi hW, wL0 hW, wL1 hW, wG0 hW, wG1 hW, wT hW, wH hW]
                 refine ⟨by (refine ⟨?_, ?_⟩ <;> omega), ?_⟩
                 refine ih (d + 1) _ _ _ (by omega) ?_
                 rw [show (d + 1).toNat = d.toNat + 1 by omega, hss]
                 first
                   | (rw [if_neg (by omega)]; omega)
                   | (rw [if_pos ⟨by omega, by assumption, by omega⟩, if_pos (by omega)]; omega)
                   | (rw [if_pos ⟨by omega, by assumption, by omega⟩, if_neg (by omega)]; omega)
               · refine ⟨sw0 hB, _, hRW.te, ?_⟩
                 refine ⟨sw1 hB, _, hRW.ht, ?_⟩
                 refine ⟨_, sw2 hB, ⟨by omega, by omega⟩, ?_⟩
                 try simp (disch := omega) only [wN hW, wO hW, wTu hW, wGi hW, wMi hW, wL0 hW, wL1 hW, wG0 hW, wG1 hW, wT hW, wH hW]
                 refine ⟨sw0 hB, _, hRW.te, ?_⟩
                 refine ⟨sw1 hB, _, hRW.ht, ?_⟩
                 refine ⟨swT hB (by omega), ?_⟩
                 try simp (disch := omega) only [wN hW, wO hW, wTu hW, wGi hW, wMi hW, wL0 hW, wL1 hW, wG0 hW, wG1 hW, wT hW, wH hW]
                 refine ⟨_, sw2 hB, ⟨by omega, by omega⟩, ?_⟩
                 try simp (disch := omega) only [wN hW, wO hW, wTu hW, wGi hW, wMi hW, wL0 hW, wL1 hW, wG0 hW, wG1 hW, wT hW, wH hW]
                 refine ⟨fun c80_3 => ?_, fun c80_3 => ?_⟩
                 · refine B_X2_lossOf_87 ?_
                   try dsimp only
                   try simp (disch := omega) only [wN hW, wO hW, wTu hW, wGi hW, wMi hW, wL0 hW, wL1 hW, wG0 hW, wG1 hW, wT hW, wH hW]
                   refine B_X2_lossOf_88 ?_
                   try dsimp only
                   try simp (disch := omega) only [wN hW, wO hW, wTu hW, wGi hW, wMi hW, wL0 hW, wL1 hW, wG0 hW, wG1 hW, wT hW, wH hW]
                   refine ⟨by (refine ⟨?_, ?_⟩ <;> omega), ?_⟩
                   refine B_X2_lossOf_90 ?_
                   try dsimp only
                   try simp (disch := omega) only [wN hW, wO hW, wTu hW, wGi hW, wMi hW, wL0 hW, wL1 hW, wG0 hW, wG1 hW, wT hW, wH hW]
                   refine ⟨by (refine ⟨?_, ?_⟩ <;> omega), ?_⟩
                   refine ih (d + 1) _ _ _ (by omega) ?_
                   rw [show (d + 1).toNat = d.toNat + 1 by omega, hss]
                   first
                     | (rw [if_neg (by omega)]; omega)
                     | (rw [if_pos ⟨by omega, by assumption, by omega⟩, if_pos (by omega)]; omega)
                     | (rw [if_pos ⟨by omega, by assumption, by omega⟩, if_neg (by omega)]; omega)
                 · refine B_X2_lossOf_88 ?_
                   try dsimp only
                   try simp (disch := omega) only [wN hW, wO hW, wTu hW, wGi hW, wMi hW, wL0 hW, wL1 hW, wG0 hW, wG1 hW, wT hW, wH hW]
                   refine ⟨by (refine ⟨?_, ?_⟩ <;> omega), ?_⟩
                   refine B_X2_lossOf_90 ?_
                   try dsimp only
                   try simp (disch := omega) only [wN hW, wO hW, wTu hW, wGi hW, wMi hW, wL0 hW, wL1 hW, wG0 hW, wG1 hW, wT hW, wH hW]
                   refine ⟨by (refine ⟨?_, ?_⟩ <;> omega), ?_⟩
                   refine ih (d + 1) _ _ _ (by omega) ?_
                   rw [show (d + 1).toNat = d.toNat + 1 by omega, hss]
                   first
                     | (rw [if_neg (by omega)]; omega)
                     | (rw [if_pos ⟨by omega, by assumption, by omega⟩, if_pos (by omega)]; omega)
                     | (rw [if_pos ⟨by omega, by assumption, by omega⟩, if_neg (by omega)]; omega))
theorem D_lossOf {G : amG} {I : Nat → Nat → Int} {R : Nat → Nat → Option Nat} {L : Nat → Nat → Int64} {x c t : Nat} {Q : amR → amH → Prop} (hG : amG0 G) {b : Nat} (hB : wb b) (hRW : RW R b) {z : Row} (hW : WV I b z) (hb : wfB z) {k : Int} (hk : 0 ≤ k ∧ k < z 98) (hQ : Q (Sum.inl (some (aI (lossZ z k.toNat)))) (I, R, L, (SH sT), x, 0, 0)) : CT G sX2_lossOf [aR (some b), aR (some (b + 7 + k.toNat))] (I, R, L, (SH sT), x, c, t) Q := by
  refine CT_of ok_X2_lossOf hG (Nat.le_of_ble_eq_true rfl) ?_
  show X G mX2_lossOf Q 0 _ [] (I, R, L, (SH sT), x, 0, 0)
  have hn1 := hb.2.1.1
  have hn2 := hb.2.1.2
  have hb1 := wb_le hB
  refine B_X2_lossOf_0 ?_
  try dsimp only
  try simp (disch := omega) only [wN hW, wO hW, wTu hW, wGi hW, wMi hW, wL0 hW, wL1 hW, wG0 hW, wG1 hW, wT hW, wH hW]
  exact L_lossOf hG hB hRW hW hb hk hQ 5 0 0 none none (by omega) rfl
