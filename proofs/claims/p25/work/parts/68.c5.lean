variable {sT : List (Nat × Nat)}
/-! ===== the class: a war reads as a row ===== -/
def WV (I : Nat → Nat → Int) (b : Nat) (z : Row) : Prop := HV I b z ∧ (I (b + 3) 0 = z 96 ∧ I (b + 3) 1 = z 97) ∧ I b 3 = z 98 ∧ I b 5 = z 195 ∧ I b 6 = z 316 ∧ I b 7 = z 317 ∧ I b 8 = z 318 ∧ (I (b + 6) 0 = z 319 ∧ I (b + 6) 1 = z 320) ∧ ∀ k f : Nat, (k : Int) < z 98 → f < 8 → I (b + 7 + k) f = tf z k f
theorem wH {I : Nat → Nat → Int} {b : Nat} {z : Row} (h : WV I b z) : HV I b z := h.1
theorem wG0 {I : Nat → Nat → Int} {b : Nat} {z : Row} (h : WV I b z) : I (b + 3) 0 = z 96 := h.2.1.1
theorem wG1 {I : Nat → Nat → Int} {b : Nat} {z : Row} (h : WV I b z) : I (b + 3) 1 = z 97 := h.2.1.2
theorem wN {I : Nat → Nat → Int} {b : Nat} {z : Row} (h : WV I b z) : I b 3 = z 98 := h.2.2.1
theorem wO {I : Nat → Nat → Int} {b : Nat} {z : Row} (h : WV I b z) : I b 5 = z 195 := h.2.2.2.1
theorem wTu {I : Nat → Nat → Int} {b : Nat} {z : Row} (h : WV I b z) : I b 6 = z 316 := h.2.2.2.2.1
theorem wGi {I : Nat → Nat → Int} {b : Nat} {z : Row} (h : WV I b z) : I b 7 = z 317 := h.2.2.2.2.2.1
theorem wMi {I : Nat → Nat → Int} {b : Nat} {z : Row} (h : WV I b z) : I b 8 = z 318 := h.2.2.2.2.2.2.1
theorem wL0 {I : Nat → Nat → Int} {b : Nat} {z : Row} (h : WV I b z) : I (b + 6) 0 = z 319 := h.2.2.2.2.2.2.2.1.1
theorem wL1 {I : Nat → Nat → Int} {b : Nat} {z : Row} (h : WV I b z) : I (b + 6) 1 = z 320 := h.2.2.2.2.2.2.2.1.2
theorem wT {I : Nat → Nat → Int} {b : Nat} {z : Row} (h : WV I b z) : ∀ k f : Nat, (k : Int) < z 98 → f < 8 → I (b + 7 + k) f = tf z k f := h.2.2.2.2.2.2.2.2
theorem wGs {I : Nat → Nat → Int} {b : Nat} {z : Row} (h : WV I b z) {s : Int} (hs : 0 ≤ s ∧ s ≤ 1) : I (b + 3) s.toNat = z (96 + s).toNat := by
  rcases (by omega : s = 0 ∨ s = 1) with e | e <;> subst e
  · exact wG0 h
  · exact wG1 h
/-- what lies elsewhere may change -/
theorem WV_off {I J : Nat → Nat → Int} {b : Nat} {z : Row} (h : WV I b z) (hn : z 98 ≤ 12) (he : ∀ a : Nat, b ≤ a → a < b + 49 → J a = I a) : WV J b z := by
  refine ⟨fun j hj => ?_, ⟨?_, ?_⟩, ?_, ?_, ?_, ?_, ?_, ⟨?_, ?_⟩, fun k f hk hf => ?_⟩
  · rw [he _ (by omega) (by omega)]; exact wH h j hj
  · rw [he _ (by omega) (by omega)]; exact wG0 h
  · rw [he _ (by omega) (by omega)]; exact wG1 h
  · rw [he _ (by omega) (by omega)]; exact wN h
  · rw [he _ (by omega) (by omega)]; exact wO h
  · rw [he _ (by omega) (by omega)]; exact wTu h
  · rw [he _ (by omega) (by omega)]; exact wGi h
  · rw [he _ (by omega) (by omega)]; exact wMi h
  · rw [he _ (by omega) (by omega)]; exact wL0 h
  · rw [he _ (by omega) (by omega)]; exact wL1 h
  · rw [he _ (by omega) (by omega)]; exact wT h k f hk hf
theorem WV_p3 {I : Nat → Nat → Int} {b p : Nat} {z : Row} (h : WV I b z) (hn : z 98 ≤ 12) (hB : wb b) (hP : wp p) (f q : Row) : WV (p3 I p f q) b z := WV_off h hn (fun a h1 h2 => by
  have := wb_le hB
  have := wp_le hP
  exact p3_o _ _ _ _ (by omega))
theorem sc0 : (SH sT)[350]? = some (0, 0) := SH_at (by decide +kernel)
theorem sc5 : (SH sT)[355]? = some (20, 96) := SH_at (by decide +kernel)
def RC (R : Nat → Nat → Option Nat) : Prop := R 350 0 = some 351 ∧ R 350 1 = some 355
theorem hP1 : wp 351 := Or.inl rfl
theorem hP2 : wp 357 := Or.inr rfl
/-- with nothing taken the search goes everywhere -/
theorem isE_op {z : Row} {op op' : Int → Bool} (h : ∀ t : Int, isC t → op t = op' t) {p t : Int} (e : isE z op p t) : isE z op' p t := by
  have hc := isE_cell e
  obtain ⟨hp, w, w0, w1, w2, w3, w4⟩ := e
  exact ⟨hp, w, w0, w1, w2, w3, by rw [← h t hc]; exact w4⟩
theorem wk_op {z : Row} {op op' : Int → Bool} {c : Int} (h : ∀ t : Int, isC t → op t = op' t) : ∀ {n : Nat} {t : Int}, wk z op c n t → wk z op' c n t
  | 0, _, e => e
  | _ + 1, _, ⟨p, e1, e2⟩ => ⟨p, wk_op h e1, isE_op h e2⟩
theorem dSp_op {z : Row} {op op' : Int → Bool} {c : Int} {f : Row} (h : ∀ t : Int, isC t → op t = op' t) (hd : dSp z op c f) : dSp z op' c f := fun t ht => by
  rcases hd t ht with a | a
  · exact Or.inl ⟨a.1, fun n w => a.2 n (wk_op (fun t ht => (h t ht).symm) w)⟩
  · exact Or.inr ⟨a.1, a.2.1, wk_op h a.2.2.1, fun m w => a.2.2.2 m (wk_op (fun t ht => (h t ht).symm) w)⟩
theorem opT_all {tk : Row} (h : ∀ t : Nat, t < 96 → tk t = 0) : ∀ t : Int, isC t → opT tk t = opA t := fun t ht => decide_eq_true (h _ (by unfold isC at ht; omega))
theorem L_troopIn {G : amG} {I : Nat → Nat → Int} {R : Nat → Nat → Option Nat} {L : Nat → Nat → Int64} {x : Nat} {Q : amR → amH → Prop} (hG : amG0 G) {b : Nat} (hB : wb b) (hRW : RW R b) {z : Row} (hW : WV I b z) (hb : wfB z) {v : Int} (hQ : Q (Sum.inl (some (aI (tAt z v)))) (I, R, L, (SH sT), x, 0, 0)) :
    ∀ (n : Nat) (j : Int), (0 ≤ j ∧ j ≤ z 98 ∧ z 98 - j < n) → (∀ k : Nat, (k : Int) < j → ¬ (tf z k 4 ≠ 2 ∧ tf z k 1 = v)) → X G mX8_troopIn Q 2 [some (aR (some b)), some (aI v), some (aI j)] [] (I, R, L, (SH sT), x, 0, 0) := by
  intro n
  induction n with
  | zero =>
    intros
    exfalso; omega
  | succ n ih =>
    intro j h1 hj
    have hn1 := hb.2.1.1
    have hn2 := hb.2.1.2
    have hb1 := wb_le hB
    refine B_X8_troopIn_2 ?_
    try dsimp only
    try simp (disch := omega) only [wN hW, wO hW, wTu hW, wGi hW, wMi hW, wL0 hW, wL1 hW, wG0 hW, wG1 hW, wT hW, wH hW]
    refine ⟨sw0 hB, ?_⟩
    try simp (disch := omega) only [wN hW, wO hW, wTu hW, wGi hW, wMi hW, wL0 hW, wL1 hW, wG0 hW, wG1 hW, wT hW, wH hW]
    refine ⟨fun c7_0 => ?_, fun c7_0 => ?_⟩
    · refine B_X8_troopIn_44 ?_
      try dsimp only
      try simp (disch := omega) only [wN hW, wO hW, wTu hW, wGi hW, wMi hW, wL0 hW, wL1 hW, wG0 hW, wG1 hW, wT hW, wH hW]
      first
        | (have e : tAt z v = -1 := tA_none.mpr (fun k hk => hj k (by omega))
           rw [e] at hQ
           exact hQ)
        | (have e : tAt z v = (j.toNat : Nat) := tA_uniq hb.2.2.2.1 (by omega) (by omega) (by omega) (by omega)
           rw [e, show ((j.toNat : Nat) : Int) = j by omega] at hQ
           exact hQ)
    · refine ⟨sw0 hB, _, hRW.tr, ?_⟩
      refine ⟨_, _, sw4 hB, ⟨by decide, by decide⟩, ⟨by omega, by omega⟩, _, hRW.t (by omega), ?_⟩
      refine ⟨swT hB (by omega), ?_⟩
      try simp (disch := omega) only [wN hW, wO hW, wTu hW, wGi hW, wMi hW, wL0 hW, wL1 hW, wG0 hW, wG1 hW, wT hW, wH hW]
      refine ⟨fun c20_0 => ?_, fun c20_0 => ?_⟩
      · refine B_X8_troopIn_38 ?_
        try dsimp only
        try simp (disch := omega) only [wN hW, wO hW, wTu hW, wGi hW, wMi hW, wL0 hW, wL1 hW, wG0 hW, wG1 hW, wT hW, wH hW]
        refine ⟨by (refine ⟨?_, ?_⟩ <;> omega), ?_⟩
        refine ih (j + 1) (by omega) (fun k hk => ?_)
        rcases (by omega : (k : Int) < j ∨ k = j.toNat) with u | u
        · exact hj k u
        · rw [u]; omega
      · refine ⟨sw0 hB, _, hRW.tr, ?_⟩
        refine ⟨_, _, sw4 hB, ⟨by decide, by decide⟩, ⟨by omega, by omega⟩, _, hRW.t (by omega), ?_⟩
        refine ⟨swT hB (by omega), ?_⟩
        try simp (disch := omega) only [wN hW, wO hW, wTu hW, wGi hW, wMi hW, wL0 hW, wL1 hW, wG0 hW, wG1 hW, wT hW, wH hW]
        refine ⟨fun c33_0 => ?_, fun c33_0 => ?_⟩
        · refine B_X8_troopIn_38 ?_
          try dsimp only
          try simp (disch := omega) only [wN hW, wO hW, wTu hW, wGi hW, wMi hW, wL0 hW, wL1 hW, wG0 hW, wG1 hW, wT hW, wH hW]
          refine ⟨by (refine ⟨?_, ?_⟩ <;> omega), ?_⟩
          refine ih (j + 1) (by omega) (fun k hk => ?_)
          rcases (by omega : (k : Int) < j ∨ k = j.toNat) with u | u
          · exact hj k u
          · rw [u]; omega
        · first
            | (have e : tAt z v = -1 := tA_none.mpr (fun k hk => hj k (by omega))
               rw [e] at hQ
               exact hQ)
            | (have e : tAt z v = (j.toNat : Nat) := tA_uniq hb.2.2.2.1 (by omega) (by omega) (by omega) (by omega)
               rw [e, show ((j.toNat : Nat) : Int) = j by omega] at hQ
               exact hQ)
theorem D_troopIn {G : amG} {I : Nat → Nat → Int} {R : Nat → Nat → Option Nat} {L : Nat → Nat → Int64} {x c t : Nat} {Q : amR → amH → Prop} (hG : amG0 G) {b : Nat} (hB : wb b) (hRW : RW R b) {z : Row} (hW : WV I b z) (hb : wfB z) {v : Int} (hQ : Q (Sum.inl (some (aI (tAt z v)))) (I, R, L, (SH sT), x, 0, 0)) : CT G sX8_troopIn [aR (some b), aI v] (I, R, L, (SH sT), x, c, t) Q := by
  refine CT_of ok_X8_troopIn hG (Nat.le_of_ble_eq_true rfl) ?_
  show X G mX8_troopIn Q 0 _ [] (I, R, L, (SH sT), x, 0, 0)
  have hn1 := hb.2.1.1
  have hn2 := hb.2.1.2
  have hb1 := wb_le hB
  refine B_X8_troopIn_0 ?_
  try dsimp only
  try simp (disch := omega) only [wN hW, wO hW, wTu hW, wGi hW, wMi hW, wL0 hW, wL1 hW, wG0 hW, wG1 hW, wT hW, wH hW]
  exact L_troopIn hG hB hRW hW hb hQ 13 0 (by omega) (fun k hk => by omega)
theorem D_ridingTurns {G : amG} {h : amH} {Q : amR → amH → Prop} (hG : amG0 G) {v : Int} (hv : -1 ≤ v ∧ v < 96) (hQ : ∀ r : Int, (v = -1 ∧ r = -1) ∨ (v = 0 ∧ r = 1) ∨ (1 ≤ v ∧ r = (v + 2) / 3) → Q (Sum.inl (some (aI r))) (hGive h 0 0)) : CT G sX0_ridingTurns [aI v] h Q := by
  refine CT_of ok_X0_ridingTurns hG (Nat.le_of_ble_eq_true rfl) ?_
  show X G mX0_ridingTurns Q 0 _ [] (h.1, h.2.1, h.2.2.1, h.2.2.2.1, h.2.2.2.2.1, 0, 0)
  have td : v ≠ -1 → (v + 2).tdiv 3 = (v + 2) / 3 := fun w => Int.tdiv_eq_ediv_of_nonneg (by omega)
  refine B_X0_ridingTurns_0 ?_
  try dsimp only
  refine ⟨fun c2_0 => ?_, fun c2_0 => ?_⟩
  · refine B_X0_ridingTurns_9 ?_
    try dsimp only
    refine ⟨by (refine ⟨?_, ?_⟩ <;> omega), ?_⟩
    refine ⟨⟨by decide, by (refine ⟨?_, ?_⟩ <;> omega)⟩, ?_⟩
    refine ⟨Nat.le_of_ble_eq_true rfl, ?_⟩
    refine B_X0_ridingTurns_18 ?_
    try dsimp only
    refine hQ _ ?_
    first
      | omega
      | (split <;> omega)
  · refine B_X0_ridingTurns_18 ?_
    try dsimp only
    refine hQ _ ?_
    first
      | omega
      | (split <;> omega)
theorem D_stepsBetween {G : amG} {I : Nat → Nat → Int} {R : Nat → Nat → Option Nat} {L : Nat → Nat → Int64} {x c t : Nat} {Q : amR → amH → Prop} (hG : amG0 G) {b : Nat} (hB : wb b) (hRW : RW R b) {f q : Row} (hRC : RC R) (hRP : RP R 351) (htk : ∀ t : Nat, t < 96 → I 354 t = 0) {z : Row} (hv : HV I b z) (hh : wfH z) {v w : Int} (hc : isC v) (hd : isC w) (hQ : ∀ f q : Row, Q (Sum.inl (some (aI (dS z v w)))) (p3 I 351 f q, R, L, (SH sT), x, 0, 0)) : CT G sX0_stepsBetween [aR (some 350), aR (some (b + 1)), aI v, aI w] (p3 I 351 f q, R, L, (SH sT), x, c, t) Q := by
  refine CT_of ok_X0_stepsBetween hG (Nat.le_of_ble_eq_true rfl) ?_
  show X G mX0_stepsBetween Q 0 _ [] (p3 I 351 f q, R, L, (SH sT), x, 0, 0)
  have hc1 : 0 ≤ v ∧ v < 96 := hc
  refine B_X0_stepsBetween_0 ?_
  try dsimp only
  refine ⟨sc0, _, hRC.1, ?_⟩
  refine ⟨⟨Nat.zero_le _, Nat.zero_le _, Nat.le_of_ble_eq_true rfl⟩, sp0 hP1, ?_⟩
  refine D_spread hG hB hRW hP1 hRP hv hh hd (Or.inr hc) (fun f2 q2 he _ => ?_)
  refine af_N0 rfl rfl rfl ?_
  try dsimp only
  refine B_X0_stepsBetween_10 ?_
  try dsimp only
  refine ⟨sc0, _, hRC.1, ?_⟩
  refine ⟨sp0 hP1, _, hRP.st, ?_⟩
  refine ⟨_, sp1 hP1, ⟨by omega, by omega⟩, ?_⟩
  have e1 : p3 I 351 f2 q2 (351 + 1) v.toNat = dS z v w := by
    rw [p3_f, esp_at he (dSp_op (fun t ht => (opT_all htk t ht).symm) (dF_sp hd)) hc]
    exact dS_sym hd hc
  rw [e1]
  exact hQ f2 q2
theorem D_turnsTo {G : amG} {I : Nat → Nat → Int} {R : Nat → Nat → Option Nat} {L : Nat → Nat → Int64} {x c t : Nat} {Q : amR → amH → Prop} (hG : amG0 G) {b : Nat} (hB : wb b) (hRW : RW R b) {f q : Row} (hRC : RC R) (hRP : RP R 351) (htk : ∀ t : Nat, t < 96 → I 354 t = 0) {z : Row} (hW : WV I b z) (hb : wfB z) {k : Int} (hk : 0 ≤ k ∧ k < z 98) (hQ : ∀ f q : Row, Q (Sum.inl (some (aI (ordG z k.toNat)))) (p3 I 351 f q, R, L, (SH sT), x, 0, 0)) : CT G sX0_turnsTo [aR (some 350), aR (some b), aI k] (p3 I 351 f q, R, L, (SH sT), x, c, t) Q := by
  refine CT_of ok_X0_turnsTo hG (Nat.le_of_ble_eq_true rfl) ?_
  show X G mX0_turnsTo Q 0 _ [] (p3 I 351 f q, R, L, (SH sT), x, 0, 0)
  have hn1 := hb.2.1.1
  have hn2 := hb.2.1.2
  have hb1 := wb_le hB
  have hT := hb.2.2.1 k.toNat (by omega)
  have hT' := hT
  unfold wfT1 at hT'
  have hc1 : isC (tf z k.toNat 1) := by unfold isC; omega
  have hgs := wGs hW (s := tf z k.toNat 0) (by omega)
  have hgc := wfG_g hb.2.2.2.2.1 (s := tf z k.toNat 0) (by omega)
  refine B_X0_turnsTo_0 ?_
  try dsimp only
  try simp (disch := omega) only [p3_f, p3_q, p3_o, wN hW, wO hW, wTu hW, wGi hW, wMi hW, wL0 hW, wL1 hW, wG0 hW, wG1 hW, wT hW, wH hW, uz_same, uz_ne, Nat.reduceAdd, hgs]
  refine ⟨sw0 hB, _, hRW.tr, ?_⟩
  refine ⟨_, _, sw4 hB, ⟨by decide, by decide⟩, ⟨by omega, by omega⟩, _, hRW.t (by omega), ?_⟩
  refine ⟨sw0 hB, _, hRW.ge, ?_⟩
  refine ⟨swT hB (by omega), ?_⟩
  try simp (disch := omega) only [p3_f, p3_q, p3_o, wN hW, wO hW, wTu hW, wGi hW, wMi hW, wL0 hW, wL1 hW, wG0 hW, wG1 hW, wT hW, wH hW, uz_same, uz_ne, Nat.reduceAdd, hgs]
  refine ⟨_, sw3 hB, ⟨by omega, by omega⟩, ?_⟩
  try simp (disch := omega) only [p3_f, p3_q, p3_o, wN hW, wO hW, wTu hW, wGi hW, wMi hW, wL0 hW, wL1 hW, wG0 hW, wG1 hW, wT hW, wH hW, uz_same, uz_ne, Nat.reduceAdd, hgs]
  refine ⟨sw0 hB, _, hRW.te, ?_⟩
  refine ⟨swT hB (by omega), ?_⟩
  try simp (disch := omega) only [p3_f, p3_q, p3_o, wN hW, wO hW, wTu hW, wGi hW, wMi hW, wL0 hW, wL1 hW, wG0 hW, wG1 hW, wT hW, wH hW, uz_same, uz_ne, Nat.reduceAdd, hgs]
  refine ⟨⟨Nat.zero_le _, Nat.zero_le _, Nat.le_of_ble_eq_true rfl⟩, sw1 hB, ?_⟩
  refine D_inSight hG hB hRW (HV_p3 (wH hW) hB hP1 f q) hb.1 hgc hc1 (fun r hr => ?_)
  have hs4 : (seeI z (z (96 + tf z k.toNat 0).toNat) (tf z k.toNat 1) = 1 ∧ r = 1) ∨ (seeI z (z (96 + tf z k.toNat 0).toNat) (tf z k.toNat 1) = 0 ∧ r = 0) := hr.imp (fun q => ⟨seeI_one q.1, q.2⟩) (fun q => ⟨seeI_zero q.1, q.2⟩)
  refine af_I0 rfl rfl (by decide) ?_
  try dsimp only
  try simp (disch := omega) only [p3_f, p3_q, p3_o, wN hW, wO hW, wTu hW, wGi hW, wMi hW, wL0 hW, wL1 hW, wG0 hW, wG1 hW, wT hW, wH hW, uz_same, uz_ne, Nat.reduceAdd, hgs]
  refine B_X0_turnsTo_31 ?_
  try dsimp only
  try simp (disch := omega) only [p3_f, p3_q, p3_o, wN hW, wO hW, wTu hW, wGi hW, wMi hW, wL0 hW, wL1 hW, wG0 hW, wG1 hW, wT hW, wH hW, uz_same, uz_ne, Nat.reduceAdd, hgs]
  refine ⟨fun c31_1 => ?_, fun c31_1 => ?_⟩
  · refine B_X0_turnsTo_36 ?_
    try dsimp only
    try simp (disch := omega) only [p3_f, p3_q, p3_o, wN hW, wO hW, wTu hW, wGi hW, wMi hW, wL0 hW, wL1 hW, wG0 hW, wG1 hW, wT hW, wH hW, uz_same, uz_ne, Nat.reduceAdd, hgs]
    refine ⟨sw0 hB, _, hRW.te, ?_⟩
    refine ⟨swT hB (by omega), ?_⟩
    try simp (disch := omega) only [p3_f, p3_q, p3_o, wN hW, wO hW, wTu hW, wGi hW, wMi hW, wL0 hW, wL1 hW, wG0 hW, wG1 hW, wT hW, wH hW, uz_same, uz_ne, Nat.reduceAdd, hgs]
    refine ⟨⟨Nat.zero_le _, Nat.zero_le _, Nat.le_of_ble_eq_true rfl⟩, sc0, ?_⟩
    refine D_stepsBetween hG hB hRW hRC hRP htk (wH hW) hb.1 hgc hc1 (fun f2 q2 => ?_)
    have hd1 := dS_b (z := z) hgc hc1
    have hd0 : dS z (z (96 + tf z k.toNat 0).toNat) (tf z k.toNat 1) ≠ 0 := fun e => by
      have e2 := dS_zero hgc hc1 e
      rw [e2, seeI_self] at hs4
      omega
    refine af_I0 rfl rfl (by decide) ?_
    try dsimp only
    try simp (disch := omega) only [p3_f, p3_q, p3_o, wN hW, wO hW, wTu hW, wGi hW, wMi hW, wL0 hW, wL1 hW, wG0 hW, wG1 hW, wT hW, wH hW, uz_same, uz_ne, Nat.reduceAdd, hgs]
    refine B_X0_turnsTo_50 ?_
    try dsimp only
    try simp (disch := omega) only [p3_f, p3_q, p3_o, wN hW, wO hW, wTu hW, wGi hW, wMi hW, wL0 hW, wL1 hW, wG0 hW, wG1 hW, wT hW, wH hW, uz_same, uz_ne, Nat.reduceAdd, hgs]
    refine ⟨⟨Nat.zero_le _, Nat.zero_le _, Nat.le_of_ble_eq_true rfl⟩, trivial, ?_⟩
    refine D_ridingTurns hG hd1 (fun r2 hr2 => ?_)
    refine af_I0 rfl rfl (by decide) ?_
    try dsimp only
    try simp (disch := omega) only [p3_f, p3_q, p3_o, wN hW, wO hW, wTu hW, wGi hW, wMi hW, wL0 hW, wL1 hW, wG0 hW, wG1 hW, wT hW, wH hW, uz_same, uz_ne, Nat.reduceAdd, hgs]
    refine B_X0_turnsTo_53 ?_
    try dsimp only
    try simp (disch := omega) only [p3_f, p3_q, p3_o, wN hW, wO hW, wTu hW, wGi hW, wMi hW, wL0 hW, wL1 hW, wG0 hW, wG1 hW, wT hW, wH hW, uz_same, uz_ne, Nat.reduceAdd, hgs]
    first
      | (have e : ordG z k.toNat = 1 := by unfold ordG ordT; rw [if_pos (by omega)]
         have hQ := hQ f q
         rw [e] at hQ
         exact hQ)
      | (have e : ordG z k.toNat = r2 := by
           unfold ordG ordT
           rw [if_neg (by omega)]
           split <;> omega
         have hQ := hQ f2 q2
         rw [e] at hQ
         exact hQ)
  · first
      | (have e : ordG z k.toNat = 1 := by unfold ordG ordT; rw [if_pos (by omega)]
         have hQ := hQ f q
         rw [e] at hQ
         exact hQ)
      | (have e : ordG z k.toNat = r2 := by
           unfold ordG ordT
           rw [if_neg (by omega)]
           split <;> omega
         have hQ := hQ f2 q2
         rw [e] at hQ
         exact hQ)
theorem D_refusal {G : amG} {I : Nat → Nat → Int} {R : Nat → Nat → Option Nat} {L : Nat → Nat → Int64} {x c t : Nat} {Q : amR → amH → Prop} (hG : amG0 G) {b : Nat} (hB : wb b) (hRW : RW R b) {f q : Row} (hRC : RC R) (hRP : RP R 351) (htk : ∀ t : Nat, t < 96 → I 354 t = 0) {z : Row} (hW : WV I b z) (hb : wfB z) {k : Int} (hk : 0 ≤ k ∧ k < z 98) (ho : 0 ≤ z 195 ∧ z 195 ≤ 30) (hQ : ∀ f q : Row, Q (Sum.inl (some (aI (whyN z k.toNat)))) (p3 I 351 f q, R, L, (SH sT), x, 0, 0)) : CT G sX0_refusal [aR (some 350), aR (some b), aI k] (p3 I 351 f q, R, L, (SH sT), x, c, t) Q := by
  refine CT_of ok_X0_refusal hG (Nat.le_of_ble_eq_true rfl) ?_
  show X G mX0_refusal Q 0 _ [] (p3 I 351 f q, R, L, (SH sT), x, 0, 0)
  have hn1 := hb.2.1.1
  have hn2 := hb.2.1.2
  have hb1 := wb_le hB
  have hT := hb.2.2.1 k.toNat (by omega)
  have hT' := hT
  unfold wfT1 at hT'
  have hc1 : isC (tf z k.toNat 1) := by unfold isC; omega
  have hgs := wGs hW (s := tf z k.toNat 0) (by omega)
  have hgc := wfG_g hb.2.2.2.2.1 (s := tf z k.toNat 0) (by omega)
  refine B_X0_refusal_0 ?_
  try dsimp only
  try simp (disch := omega) only [p3_f, p3_q, p3_o, wN hW, wO hW, wTu hW, wGi hW, wMi hW, wL0 hW, wL1 hW, wG0 hW, wG1 hW, wT hW, wH hW, uz_same, uz_ne, Nat.reduceAdd, hgs]
  refine ⟨sw0 hB, _, hRW.tr, ?_⟩
  refine ⟨_, _, sw4 hB, ⟨by decide, by decide⟩, ⟨by omega, by omega⟩, _, hRW.t (by omega), ?_⟩
  refine ⟨swT hB (by omega), ?_⟩
  try simp (disch := omega) only [p3_f, p3_q, p3_o, wN hW, wO hW, wTu hW, wGi hW, wMi hW, wL0 hW, wL1 hW, wG0 hW, wG1 hW, wT hW, wH hW, uz_same, uz_ne, Nat.reduceAdd, hgs]
  refine ⟨fun c10_0 => ?_, fun c10_0 => ?_⟩
  · refine B_X0_refusal_15 ?_
    try dsimp only
    try simp (disch := omega) only [p3_f, p3_q, p3_o, wN hW, wO hW, wTu hW, wGi hW, wMi hW, wL0 hW, wL1 hW, wG0 hW, wG1 hW, wT hW, wH hW, uz_same, uz_ne, Nat.reduceAdd, hgs]
    refine ⟨⟨Nat.zero_le _, Nat.zero_le _, Nat.le_of_ble_eq_true rfl⟩, sc0, ?_⟩
    refine D_turnsTo hG hB hRW hRC hRP htk hW hb hk (fun f2 q2 => ?_)
    refine af_I0 rfl rfl (by decide) ?_
    try dsimp only
    try simp (disch := omega) only [p3_f, p3_q, p3_o, wN hW, wO hW, wTu hW, wGi hW, wMi hW, wL0 hW, wL1 hW, wG0 hW, wG1 hW, wT hW, wH hW, uz_same, uz_ne, Nat.reduceAdd, hgs]
    refine B_X0_refusal_21 ?_
    try dsimp only
    try simp (disch := omega) only [p3_f, p3_q, p3_o, wN hW, wO hW, wTu hW, wGi hW, wMi hW, wL0 hW, wL1 hW, wG0 hW, wG1 hW, wT hW, wH hW, uz_same, uz_ne, Nat.reduceAdd, hgs]
    refine ⟨fun c22_2 => ?_, fun c22_2 => ?_⟩
    · refine B_X0_refusal_27 ?_
      try dsimp only
      try simp (disch := omega) only [p3_f, p3_q, p3_o, wN hW, wO hW, wTu hW, wGi hW, wMi hW, wL0 hW, wL1 hW, wG0 hW, wG1 hW, wT hW, wH hW, uz_same, uz_ne, Nat.reduceAdd, hgs]
      refine ⟨sw0 hB, ?_⟩
      try simp (disch := omega) only [p3_f, p3_q, p3_o, wN hW, wO hW, wTu hW, wGi hW, wMi hW, wL0 hW, wL1 hW, wG0 hW, wG1 hW, wT hW, wH hW, uz_same, uz_ne, Nat.reduceAdd, hgs]
      refine ⟨fun c33_3 => ?_, fun c33_3 => ?_⟩
      · refine B_X0_refusal_40 ?_
        try dsimp only
        try simp (disch := omega) only [p3_f, p3_q, p3_o, wN hW, wO hW, wTu hW, wGi hW, wMi hW, wL0 hW, wL1 hW, wG0 hW, wG1 hW, wT hW, wH hW, uz_same, uz_ne, Nat.reduceAdd, hgs]
        refine B_X0_refusal_41 ?_
        try dsimp only
        try simp (disch := omega) only [p3_f, p3_q, p3_o, wN hW, wO hW, wTu hW, wGi hW, wMi hW, wL0 hW, wL1 hW, wG0 hW, wG1 hW, wT hW, wH hW, uz_same, uz_ne, Nat.reduceAdd, hgs]
        first
          | (have e : whyN z k.toNat = 1 := by unfold whyN; rw [if_pos (by omega)]
             have hQ := hQ f q
             rw [e] at hQ
             exact hQ)
          | (have e : whyN z k.toNat = 2 := by unfold whyN; rw [if_neg (by omega), if_pos (show ordG z k.toNat = -1 from Decidable.not_not.mp (by assumption))]
             have hQ := hQ f2 q2
             rw [e] at hQ
             exact hQ)
          | (have e : whyN z k.toNat = 3 := by unfold whyN; rw [if_neg (by omega), if_neg (by assumption), if_pos (by omega)]
             have hQ := hQ f2 q2
             rw [e] at hQ
             exact hQ)
          | (have e : whyN z k.toNat = 0 := by unfold whyN; rw [if_neg (by omega), if_neg (by assumption), if_neg (by omega)]
             have hQ := hQ f2 q2
             rw [e] at hQ
             exact hQ)
      · refine B_X0_refusal_41 ?_
        try dsimp only
        try simp (disch := omega) only [p3_f, p3_q, p3_o, wN hW, wO hW, wTu hW, wGi hW, wMi hW, wL0 hW, wL1 hW, wG0 hW, wG1 hW, wT hW, wH hW, uz_same, uz_ne, Nat.reduceAdd, hgs]
        first
          | (have e : whyN z k.toNat = 1 := by unfold whyN; rw [if_pos (by omega)]
             have hQ := hQ f q
             rw [e] at hQ
             exact hQ)
          | (have e : whyN z k.toNat = 2 := by unfold whyN; rw [if_neg (by omega), if_pos (show ordG z k.toNat = -1 from Decidable.not_not.mp (by assumption))]
             have hQ := hQ f2 q2
             rw [e] at hQ
             exact hQ)
          | (have e : whyN z k.toNat = 3 := by unfold whyN; rw [if_neg (by omega), if_neg (by assumption), if_pos (by omega)]
             have hQ := hQ f2 q2
             rw [e] at hQ
             exact hQ)
          | (have e : whyN z k.toNat = 0 := by unfold whyN; rw [if_neg (by omega), if_neg (by assumption), if_neg (by omega)]
             have hQ := hQ f2 q2
             rw [e] at hQ
             exact hQ)
    · first
        | (have e : whyN z k.toNat = 1 := by unfold whyN; rw [if_pos (by omega)]
           have hQ := hQ f q
           rw [e] at hQ
           exact hQ)
        | (have e : whyN z k.toNat = 2 := by unfold whyN; rw [if_neg (by omega), if_pos (show ordG z k.toNat = -1 from Decidable.not_not.mp (by assumption))]
           have hQ := hQ f2 q2
           rw [e] at hQ
           exact hQ)
        | (have e : whyN z k.toNat = 3 := by unfold whyN; rw [if_neg (by omega), if_neg (by assumption), if_pos (by omega)]
           have hQ := hQ f2 q2
           rw [e] at hQ
           exact hQ)
        | (have e : whyN z k.toNat = 0 := by unfold whyN; rw [if_neg (by omega), if_neg (by assumption), if_neg (by omega)]
           have hQ := hQ f2 q2
           rw [e] at hQ
           exact hQ)
  · first
      | (have e : whyN z k.toNat = 1 := by unfold whyN; rw [if_pos (by omega)]
         have hQ := hQ f q
         rw [e] at hQ
         exact hQ)
      | (have e : whyN z k.toNat = 2 := by unfold whyN; rw [if_neg (by omega), if_pos (show ordG z k.toNat = -1 from Decidable.not_not.mp (by assumption))]
         have hQ := hQ f2 q2
         rw [e] at hQ
         exact hQ)
      | (have e : whyN z k.toNat = 3 := by unfold whyN; rw [if_neg (by omega), if_neg (by assumption), if_pos (by omega)]
         have hQ := hQ f2 q2
         rw [e] at hQ
         exact hQ)
      | (have e : whyN z k.toNat = 0 := by unfold whyN; rw [if_neg (by omega), if_neg (by assumption), if_neg (by omega)]
         have hQ := hQ f2 q2
         rw [e] at hQ
         exact hQ)
