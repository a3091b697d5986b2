/-! ===== the law: how long an order takes; counts ===== -/
theorem ge_at {S U : List (Nat × Nat)} {k : Nat} {v : Nat × Nat} (h : S[k]? = some v) : (S ++ U)[k]? = some v := by
  rw [List.getElem?_append_left (List.getElem?_eq_some_iff.mp h).1]
  exact h
theorem ge_lt {S : List (Nat × Nat)} {k : Nat} {v : Nat × Nat} (h : S[k]? = some v) : k < S.length := (List.getElem?_eq_some_iff.mp h).1
theorem ge_new {S : List (Nat × Nat)} {v : Nat × Nat} : (S ++ [v])[S.length]? = some v := by
  rw [List.getElem?_append_right (Nat.le_refl _), Nat.sub_self]
  rfl
theorem u1_off {α : Type} (f : Nat → Nat → α) {a b : Nat} (v : α) (h : b ≠ a) : u1 f a v b = f b := funext (fun y => by simp [u1, h])
/-- what a count has come to -/
def cnN (z : Row) (w j : Int) : Int := if w = 2 then j - inN z 2 j.toNat else if w = 3 then inN z 1 j.toNat else stN z (w - 9) j.toNat
theorem cnN_s {z : Row} {w j : Int} (hj : 0 ≤ j) : cnN z w (j + 1) = cnN z w j + (if w = 2 then (if tf z j.toNat 4 = 2 then 0 else 1) else if w = 3 then (if tf z j.toNat 4 = 1 then 1 else 0) else if tf z j.toNat 0 = w - 9 then tf z j.toNat 2 else 0) := by
  unfold cnN
  rw [show (j + 1).toNat = j.toNat + 1 by omega]
  unfold inN stN
  rw [sumN_s, sumN_s, sumN_s]
  repeat' split
  all_goals omega
theorem cnN_b {z : Row} (ht : wfT z) {w j : Int} (hj : 0 ≤ j ∧ j ≤ z 98) (hn : z 98 ≤ 6) : -1000 ≤ cnN z w j ∧ cnN z w j ≤ 1000 := by
  have h1 := inN_b z 2 j.toNat
  have h2 := inN_b z 1 j.toNat
  have h3 := stN_b ht (w - 9) j.toNat (by omega)
  unfold cnN
  repeat' split
  all_goals omega
theorem cnt_d {d z : Row} (h : ED d z) {w : Int} (hw : 0 ≤ w ∧ w < 2) : d w.toNat = cntZ z w := by
  rcases (by omega : w = 0 ∨ w = 1) with q | q <;> subst q
  · exact h.1.1
  · exact h.1.2.1
theorem cnt_4 {d z : Row} (h : ED d z) : d 3 = cntZ z 4 := h.1.2.2.2.1
theorem cnt_5 {d z : Row} (h : ED d z) : d 2 = cntZ z 5 := h.1.2.2.1
theorem cnt_6 {d z : Row} (h : ED d z) : d 4 = cntZ z 6 := h.1.2.2.2.2.1
theorem cnt_78 {d z : Row} (h : ED d z) {w : Int} (hw : 7 ≤ w ∧ w < 9) : d (w - 2).toNat = cntZ z w := by
  rcases (by omega : w = 7 ∨ w = 8) with q | q <;> subst q
  · exact h.1.2.2.2.2.2.1
  · exact h.1.2.2.2.2.2.2
theorem cnt_n {z : Row} {w : Int} (hn : 0 ≤ z 98) (hw : w = 2 ∨ w = 3 ∨ w = 9 ∨ w = 10) : cnN z w (z 98) = cntZ z w := by
  rcases hw with q | q | q | q <;> subst q <;> rfl
theorem ordT_1 {z : Row} {s c : Int} {k : Nat} (hc : bg c = tf z k 1) (h : seeU z (bg s) (bg c)) : ordT z (bg s) k = 1 := by
  unfold ordT
  rw [← hc, if_pos (seeI_one h)]
theorem ordT_2 {z f : Row} {s c : Int} {k : Nat} (hc : bg c = tf z k 1) (h : ¬ seeU z (bg s) (bg c)) (h8 : is8 c) (hs : is8 s) (hf : f c.toNat = d8 z opA s c) : ordT z (bg s) k = (if f c.toNat = 999 then -1 else (f c.toNat + 2) / 3) := by
  have hb := dS_b (z := z) (bg_C hs) (bg_C h8)
  have e : f c.toNat = if dS z (bg s) (bg c) = -1 then 999 else dS z (bg s) (bg c) := hf
  unfold ordT
  rw [← hc, if_neg (by rw [seeI_zero h]; decide)]
  by_cases q : dS z (bg s) (bg c) = -1
  · rw [if_pos q] at e ⊢
    rw [if_pos e]
  · rw [if_neg q] at e ⊢
    rw [if_neg (by omega), e]
theorem K_time {G : amG} {I : Nat → Nat → Int} {R : Nat → Nat → Option Nat} {L : Nat → Nat → Int64} {S : List (Nat × Nat)} {c t : Nat} {Q : amR → amH → Prop} (hG : amG0 G) (hA : S[361]? = some (20, 64)) {aT aD : Nat} (hT : S[aT]? = some (20, 48)) (hD : S[aD]? = some (20, 9)) {z : Row} (hET : ET (I aT) z) (h1 : I aD 1 = z 98) (hn : z 98 ≤ 6) (hb : wfB z) (hE : EH (I 361) z) (hne : 361 < aT ∧ 361 < aD) {s k : Int} (hs : is8 s) (hk : 0 ≤ k ∧ k < z 98) (hQ : ∀ (U : List (Nat × Nat)) (J : Nat → Nat → Int) (R' : Nat → Nat → Option Nat) (L' : Nat → Nat → Int64) (c t : Nat), (∀ a : Nat, a < S.length → J a = I a ∧ R' a = R a) → Q (Sum.inl (some (aI (ordT z (bg s) k.toNat)))) (J, R', L', S ++ U, 0, c, t)) : CT G sL_time [aI s, aI k, aR (some 361), aR (some aT), aR (some aD)] (I, R, L, S, 0, c, t) Q := by
  refine CT_of ok_L_time hG (Nat.le_of_ble_eq_true rfl) ?_
  show X G mL_time Q 0 _ [] (I, R, L, S, 0, 1, 64)
  have hQ0 : ∀ c t : Nat, Q (Sum.inl (some (aI (ordT z (bg s) k.toNat)))) (I, R, L, S, 0, c, t) := fun c t => by
    have q := hQ [] I R L c t (fun a ha => ⟨rfl, rfl⟩)
    rw [List.append_nil] at q
    exact q
  have hi8 := sm_in (hET.c hk.1 hk.2)
  have hc8 : bg (s8 (tf z k.toNat 1)) = tf z k.toNat 1 := bg_sm (hET.c hk.1 hk.2)
  refine B_L_time_0 ?_
  try dsimp only
  try simp (disch := omega) only [hET.e1]
  refine ⟨by (refine ⟨?_, ?_⟩ <;> omega), ?_⟩
  refine ⟨by (refine ⟨?_, ?_⟩ <;> omega), ?_⟩
  refine ⟨_, hT, ⟨by first | omega | (unfold is8 at hi8; omega), by first | omega | (unfold is8 at hi8; omega)⟩, ?_⟩
  try simp (disch := omega) only [hET.e1]
  refine ⟨⟨Nat.zero_le _, Nat.zero_le _, Nat.le_of_ble_eq_true rfl⟩, trivial, ?_⟩
  refine K_sees hG hA hE hs hi8 (fun r hr => ?_)
  refine af_I0 rfl rfl (by decide) ?_
  try dsimp only
  try simp (disch := omega) only [hET.e1]
  refine B_L_time_17 ?_
  try dsimp only
  try simp (disch := omega) only [hET.e1]
  refine ⟨fun c17_1 => ?_, fun c17_1 => ?_⟩
  · refine B_L_time_22 ?_
    try dsimp only
    try simp (disch := omega) only [hET.e1]
    refine ⟨⟨by decide, by decide, by omega, by omega, by first | trivial | rfl | assumption⟩, ?_⟩
    refine ⟨⟨Nat.zero_le _, Nat.zero_le _, Nat.le_of_ble_eq_true rfl⟩, trivial, ?_⟩
    refine K_spread hG (ge_at hA) (ge_at hT) (ge_at hD) (by rw [u1_off _ _ (Nat.ne_of_lt (ge_lt hT))]; exact hET) (by rw [u1_off _ _ (Nat.ne_of_lt (ge_lt hD))]; exact h1) hn hb (by rw [u1_off _ _ (Nat.ne_of_lt (ge_lt hA))]; exact hE) ge_new ⟨Nat.ne_of_gt (ge_lt hA), Nat.ne_of_gt (ge_lt hT), Nat.ne_of_gt (ge_lt hD)⟩ hs (by decide) (fun f hf => ?_)
    have hf2 : ∀ c : Int, is8 c → f c.toNat = d8 z opA s c := fun c hc => by rw [hf c hc, opM_all]
    have hst : ¬ seeU z (bg s) (bg (s8 (tf z k.toNat 1))) := by
      rcases hr with q | q
      · omega
      · exact q.1
    have hfb := hf2 _ hi8
    have hdb := d8_b (z := z) (op := opA) hs hi8
    rw [← hfb] at hdb
    have hfr : ∀ a : Nat, a < S.length → pr (u1 I S.length 0) S.length f a = I a ∧ u1 R S.length none a = R a := fun a ha => ⟨by rw [pr_off _ _ (Nat.ne_of_lt ha), u1_off _ _ (Nat.ne_of_lt ha)], u1_off _ _ (Nat.ne_of_lt ha)⟩
    refine af_N0 rfl rfl rfl ?_
    try dsimp only
    try simp (disch := omega) only [hET.e1]
    refine B_L_time_39 ?_
    try dsimp only
    try simp (disch := omega) only [hET.e1]
    try simp only [pr_at]
    refine ⟨_, by first | exact hT | exact ge_new, ⟨by first | omega | (unfold is8 at hi8; omega), by first | omega | (unfold is8 at hi8; omega)⟩, ?_⟩
    try simp (disch := omega) only [hET.e1]
    refine ⟨fun c47_3 => ?_, fun c47_3 => ?_⟩
    · refine B_L_time_54 ?_
      try dsimp only
      try simp (disch := omega) only [hET.e1]
      refine ⟨_, by first | exact hT | exact ge_new, ⟨by first | omega | (unfold is8 at hi8; omega), by first | omega | (unfold is8 at hi8; omega)⟩, ?_⟩
      try simp (disch := omega) only [hET.e1]
      try simp only [pr_at]
      refine ⟨by (refine ⟨?_, ?_⟩ <;> omega), ?_⟩
      rw [show Int.tdiv (f (s8 (tf z k.toNat 1)).toNat + 2) 3 = (f (s8 (tf z k.toNat 1)).toNat + 2) / 3 from Int.tdiv_eq_ediv_of_nonneg (by omega)]
      refine ⟨⟨by decide, by (refine ⟨?_, ?_⟩ <;> omega)⟩, ?_⟩
      refine B_L_time_63 ?_
      try dsimp only
      try simp (disch := omega) only [hET.e1]
      first
        | (rw [ordT_1 hc8 hst] at hQ0; exact hQ0 _ _)
        | (have hd := hf2 _ hi8
           rw [ordT_2 hc8 hst hi8 hs hd] at hQ
           rw [if_pos (by omega)] at hQ
           exact hQ [(20, 64)] _ _ _ _ _ hfr)
        | (have hd := hf2 _ hi8
           rw [ordT_2 hc8 hst hi8 hs hd] at hQ
           rw [if_neg (by omega)] at hQ
           exact hQ [(20, 64)] _ _ _ _ _ hfr)
        | (exfalso; omega)
    · refine B_L_time_63 ?_
      try dsimp only
      try simp (disch := omega) only [hET.e1]
      first
        | (rw [ordT_1 hc8 hst] at hQ0; exact hQ0 _ _)
        | (have hd := hf2 _ hi8
           rw [ordT_2 hc8 hst hi8 hs hd] at hQ
           rw [if_pos (by omega)] at hQ
           exact hQ [(20, 64)] _ _ _ _ _ hfr)
        | (have hd := hf2 _ hi8
           rw [ordT_2 hc8 hst hi8 hs hd] at hQ
           rw [if_neg (by omega)] at hQ
           exact hQ [(20, 64)] _ _ _ _ _ hfr)
        | (exfalso; omega)
  · have hst : seeU z (bg s) (bg (s8 (tf z k.toNat 1))) := by
      rcases hr with q | q
      · exact q.1
      · omega
    first
      | (rw [ordT_1 hc8 hst] at hQ0; exact hQ0 _ _)
      | (have hd := hf2 _ hi8
         rw [ordT_2 hc8 hst hi8 hs hd] at hQ
         rw [if_pos (by omega)] at hQ
         exact hQ [(20, 64)] _ _ _ _ _ hfr)
      | (have hd := hf2 _ hi8
         rw [ordT_2 hc8 hst hi8 hs hd] at hQ
         rw [if_neg (by omega)] at hQ
         exact hQ [(20, 64)] _ _ _ _ _ hfr)
      | (exfalso; omega)
theorem K_why {G : amG} {I : Nat → Nat → Int} {R : Nat → Nat → Option Nat} {L : Nat → Nat → Int64} {S : List (Nat × Nat)} {c t : Nat} {Q : amR → amH → Prop} (hG : amG0 G) (hA : S[361]? = some (20, 64)) {aT aD : Nat} (hT : S[aT]? = some (20, 48)) (hD : S[aD]? = some (20, 9)) {z : Row} (hET : ET (I aT) z) (hED : ED (I aD) z) (hn : z 98 ≤ 6) (hb : wfB z) (hE : EH (I 361) z) (hne : 361 < aT ∧ 361 < aD) (ho : z 195 ≤ 12) {k : Int} (hk : 0 ≤ k ∧ k < z 98) (hQ : ∀ (U : List (Nat × Nat)) (J : Nat → Nat → Int) (R' : Nat → Nat → Option Nat) (L' : Nat → Nat → Int64) (c t : Nat), (∀ a : Nat, a < S.length → J a = I a ∧ R' a = R a) → Q (Sum.inl (some (aI (whyN z k.toNat)))) (J, R', L', S ++ U, 0, c, t)) : CT G sL_why [aI k, aR (some 361), aR (some aT), aR (some aD)] (I, R, L, S, 0, c, t) Q := by
  refine CT_of ok_L_why hG (Nat.le_of_ble_eq_true rfl) ?_
  show X G mL_why Q 0 _ [] (I, R, L, S, 0, 1, 64)
  have hQ0 : ∀ c t : Nat, Q (Sum.inl (some (aI (whyN z k.toNat)))) (I, R, L, S, 0, c, t) := fun c t => by
    have q := hQ [] I R L c t (fun a ha => ⟨rfl, rfl⟩)
    rw [List.append_nil] at q
    exact q
  have hw := hb.t hk.1 hk.2
  refine B_L_why_0 ?_
  try dsimp only
  try simp (disch := omega) only [hET.e0, hET.e4]
  refine ⟨by (refine ⟨?_, ?_⟩ <;> omega), ?_⟩
  refine ⟨by (refine ⟨?_, ?_⟩ <;> omega), ?_⟩
  refine ⟨_, by first | exact hT | exact hD, ⟨by omega, by omega⟩, ?_⟩
  try simp (disch := omega) only [hET.e0, hET.e4]
  refine ⟨fun c9_0 => ?_, fun c9_0 => ?_⟩
  · refine B_L_why_16 ?_
    try dsimp only
    try simp (disch := omega) only [hET.e0, hET.e4]
    have hsd : 0 ≤ tf z k.toNat 0 ∧ tf z k.toNat 0 ≤ 1 := hw.1
    have hg := hED.gen hsd
    refine ⟨by (refine ⟨?_, ?_⟩ <;> omega), ?_⟩
    refine ⟨_, by first | exact hT | exact hD, ⟨by omega, by omega⟩, ?_⟩
    try simp (disch := omega) only [hET.e0, hET.e4]
    refine ⟨by (refine ⟨?_, ?_⟩ <;> omega), ?_⟩
    refine ⟨_, by first | exact hT | exact hD, ⟨by omega, by omega⟩, ?_⟩
    try simp (disch := omega) only [hET.e0, hET.e4]
    rw [hg.1]
    refine ⟨⟨by omega, by omega, Nat.le_of_ble_eq_true rfl⟩, trivial, ?_⟩
    have hgc : bg (s8 (z (96 + tf z k.toNat 0).toNat)) = z (96 + tf z k.toNat 0).toNat := bg_sm hg.2
    refine K_time hG hA hT hD hET hED.n hn hb hE hne (sm_in hg.2) hk (fun U J R1 L1 c1 t1 hfr => ?_)
    rw [hgc]
    have hp := ordT_pos (z := z) (inL_C hg.2) hw
    refine af_I (cc := 1) (tt := 64) rfl rfl (by decide) ?_
    try dsimp only
    try simp (disch := omega) only [hET.e0, hET.e4]
    refine B_L_why_34 ?_
    try dsimp only
    try simp (disch := omega) only [hET.e0, hET.e4]
    refine ⟨fun c34_2 => ?_, fun c34_2 => ?_⟩
    · refine B_L_why_41 ?_
      try dsimp only
      try simp (disch := omega) only [hET.e0, hET.e4]
      refine B_L_why_42 ?_
      try dsimp only
      try simp (disch := omega) only [hET.e0, hET.e4]
      first
        | (have e : whyN z k.toNat = 1 := by unfold whyN; rw [if_pos (by omega)]
           rw [e] at hQ0
           exact hQ0 _ _)
        | (have e : whyN z k.toNat = 2 := by
             unfold whyN
             rw [if_neg (by omega), if_pos (by show ordT _ _ _ = _; omega)]
           rw [e] at hQ
           exact hQ U J R1 L1 _ _ hfr)
        | (have e : whyN z k.toNat = 0 := by
             unfold whyN
             rw [if_neg (by omega), if_neg (by show ¬ ordT _ _ _ = _; omega), if_neg (by omega)]
           rw [e] at hQ
           exact hQ U J R1 L1 _ _ hfr)
        | (exfalso; omega)
    · refine B_L_why_42 ?_
      try dsimp only
      try simp (disch := omega) only [hET.e0, hET.e4]
      first
        | (have e : whyN z k.toNat = 1 := by unfold whyN; rw [if_pos (by omega)]
           rw [e] at hQ0
           exact hQ0 _ _)
        | (have e : whyN z k.toNat = 2 := by
             unfold whyN
             rw [if_neg (by omega), if_pos (by show ordT _ _ _ = _; omega)]
           rw [e] at hQ
           exact hQ U J R1 L1 _ _ hfr)
        | (have e : whyN z k.toNat = 0 := by
             unfold whyN
             rw [if_neg (by omega), if_neg (by show ¬ ordT _ _ _ = _; omega), if_neg (by omega)]
           rw [e] at hQ
           exact hQ U J R1 L1 _ _ hfr)
        | (exfalso; omega)
  · refine B_L_why_42 ?_
    try dsimp only
    try simp (disch := omega) only [hET.e0, hET.e4]
    first
      | (have e : whyN z k.toNat = 1 := by unfold whyN; rw [if_pos (by omega)]
         rw [e] at hQ0
         exact hQ0 _ _)
      | (have e : whyN z k.toNat = 2 := by
           unfold whyN
           rw [if_neg (by omega), if_pos (by show ordT _ _ _ = _; omega)]
         rw [e] at hQ
         exact hQ U J R1 L1 _ _ hfr)
      | (have e : whyN z k.toNat = 0 := by
           unfold whyN
           rw [if_neg (by omega), if_neg (by show ¬ ordT _ _ _ = _; omega), if_neg (by omega)]
         rw [e] at hQ
         exact hQ U J R1 L1 _ _ hfr)
      | (exfalso; omega)
theorem KL_counted {G : amG} {I : Nat → Nat → Int} {R : Nat → Nat → Option Nat} {L : Nat → Nat → Int64} {S : List (Nat × Nat)} {x : Nat} {Q : amR → amH → Prop} (hG : amG0 G) {aT aD : Nat} (hT : S[aT]? = some (20, 48)) (hD : S[aD]? = some (20, 9)) {z : Row} (hET : ET (I aT) z) (hED : ED (I aD) z) (hn : z 98 ≤ 6) (hb : wfB z) {w : Int} (hw : w = 2 ∨ w = 3 ∨ w = 9 ∨ w = 10) (hQ : Q (Sum.inl (some (aI (cntZ z w)))) (I, R, L, S, x, 0, 0)) :
    ∀ (n : Nat) (j s : Int), 0 ≤ j → (z 98 - j < n ∧ j ≤ z 98) → s = cnN z w j → X G mL_counted Q 65 [some (aI w), some (aR (some aT)), some (aR (some aD)), some (aI s), some (aI j)] [] (I, R, L, S, x, 0, 0) := by
  intro n
  induction n with
  | zero =>
    intros
    exfalso; omega
  | succ n ih =>
    intro j s h0 hj hs
    have hsb := cnN_b hb.2.2.1 (w := w) ⟨h0, hj.2⟩ hn
    have hss := cnN_s (z := z) (w := w) h0
    refine B_L_counted_65 ?_
    try dsimp only
    try simp (disch := omega) only [hED.n, hET.e0, hET.e2, hET.e4]
    refine ⟨_, by first | exact hD | exact hT, ⟨by omega, by omega⟩, ?_⟩
    try simp (disch := omega) only [hED.n, hET.e0, hET.e2, hET.e4]
    refine ⟨fun c70_0 => ?_, fun c70_0 => ?_⟩
    · refine B_L_counted_161 ?_
      try dsimp only
      try simp (disch := omega) only [hED.n, hET.e0, hET.e2, hET.e4]
      refine Qe hQ ?_
      have e : j = z 98 := by omega
      rw [hs, e]
      exact cnt_n hb.2.1.1 hw
    · have ht := hb.t h0 (by omega)
      unfold wfT1 at ht
      refine ⟨fun c76_0 => ?_, fun c76_0 => ?_⟩
      · refine B_L_counted_100 ?_
        try dsimp only
        try simp (disch := omega) only [hED.n, hET.e0, hET.e2, hET.e4]
        refine ⟨fun c102_1 => ?_, fun c102_1 => ?_⟩
        · refine B_L_counted_126 ?_
          try dsimp only
          try simp (disch := omega) only [hED.n, hET.e0, hET.e2, hET.e4]
          refine ⟨by (refine ⟨?_, ?_⟩ <;> omega), ?_⟩
          refine ⟨_, by first | exact hD | exact hT, ⟨by omega, by omega⟩, ?_⟩
          try simp (disch := omega) only [hED.n, hET.e0, hET.e2, hET.e4]
          refine ⟨by (refine ⟨?_, ?_⟩ <;> omega), ?_⟩
          refine ⟨fun c137_2 => ?_, fun c137_2 => ?_⟩
          · refine B_L_counted_152 ?_
            try dsimp only
            try simp (disch := omega) only [hED.n, hET.e0, hET.e2, hET.e4]
            refine B_L_counted_153 ?_
            try dsimp only
            try simp (disch := omega) only [hED.n, hET.e0, hET.e2, hET.e4]
            refine ⟨by (refine ⟨?_, ?_⟩ <;> omega), ?_⟩
            refine ⟨by (refine ⟨?_, ?_⟩ <;> omega), ?_⟩
            refine ih (j + 1) _ (by omega) (by omega) ?_
            rw [hss, hs]
            repeat' split
            all_goals omega
          · refine ⟨by (refine ⟨?_, ?_⟩ <;> omega), ?_⟩
            refine ⟨by (refine ⟨?_, ?_⟩ <;> omega), ?_⟩
            refine ⟨_, by first | exact hD | exact hT, ⟨by omega, by omega⟩, ?_⟩
            try simp (disch := omega) only [hED.n, hET.e0, hET.e2, hET.e4]
            refine B_L_counted_153 ?_
            try dsimp only
            try simp (disch := omega) only [hED.n, hET.e0, hET.e2, hET.e4]
            refine ⟨by (refine ⟨?_, ?_⟩ <;> omega), ?_⟩
            refine ⟨by (refine ⟨?_, ?_⟩ <;> omega), ?_⟩
            refine ih (j + 1) _ (by omega) (by omega) ?_
            rw [hss, hs]
            repeat' split
            all_goals omega
        · refine ⟨by (refine ⟨?_, ?_⟩ <;> omega), ?_⟩
          refine ⟨by (refine ⟨?_, ?_⟩ <;> omega), ?_⟩
          refine ⟨_, by first | exact hD | exact hT, ⟨by omega, by omega⟩, ?_⟩
          try simp (disch := omega) only [hED.n, hET.e0, hET.e2, hET.e4]
          refine ⟨fun c115_1 => ?_, fun c115_1 => ?_⟩
          · refine B_L_counted_122 ?_
            try dsimp only
            try simp (disch := omega) only [hED.n, hET.e0, hET.e2, hET.e4]
            refine B_L_counted_153 ?_
            try dsimp only
            try simp (disch := omega) only [hED.n, hET.e0, hET.e2, hET.e4]
            refine ⟨by (refine ⟨?_, ?_⟩ <;> omega), ?_⟩
            refine ⟨by (refine ⟨?_, ?_⟩ <;> omega), ?_⟩
            refine ih (j + 1) _ (by omega) (by omega) ?_
            rw [hss, hs]
            repeat' split
            all_goals omega
          · refine B_L_counted_153 ?_
            try dsimp only
            try simp (disch := omega) only [hED.n, hET.e0, hET.e2, hET.e4]
            refine ⟨by (refine ⟨?_, ?_⟩ <;> omega), ?_⟩
            refine ⟨by (refine ⟨?_, ?_⟩ <;> omega), ?_⟩
            refine ih (j + 1) _ (by omega) (by omega) ?_
            rw [hss, hs]
            repeat' split
            all_goals omega
      · refine ⟨by (refine ⟨?_, ?_⟩ <;> omega), ?_⟩
        refine ⟨by (refine ⟨?_, ?_⟩ <;> omega), ?_⟩
        refine ⟨_, by first | exact hD | exact hT, ⟨by omega, by omega⟩, ?_⟩
        try simp (disch := omega) only [hED.n, hET.e0, hET.e2, hET.e4]
        refine ⟨fun c89_0 => ?_, fun c89_0 => ?_⟩
        · refine B_L_counted_96 ?_
          try dsimp only
          try simp (disch := omega) only [hED.n, hET.e0, hET.e2, hET.e4]
          refine B_L_counted_153 ?_
          try dsimp only
          try simp (disch := omega) only [hED.n, hET.e0, hET.e2, hET.e4]
          refine ⟨by (refine ⟨?_, ?_⟩ <;> omega), ?_⟩
          refine ⟨by (refine ⟨?_, ?_⟩ <;> omega), ?_⟩
          refine ih (j + 1) _ (by omega) (by omega) ?_
          rw [hss, hs]
          repeat' split
          all_goals omega
        · refine B_L_counted_153 ?_
          try dsimp only
          try simp (disch := omega) only [hED.n, hET.e0, hET.e2, hET.e4]
          refine ⟨by (refine ⟨?_, ?_⟩ <;> omega), ?_⟩
          refine ⟨by (refine ⟨?_, ?_⟩ <;> omega), ?_⟩
          refine ih (j + 1) _ (by omega) (by omega) ?_
          rw [hss, hs]
          repeat' split
          all_goals omega
theorem K_counted {G : amG} {I : Nat → Nat → Int} {R : Nat → Nat → Option Nat} {L : Nat → Nat → Int64} {S : List (Nat × Nat)} {x c t : Nat} {Q : amR → amH → Prop} (hG : amG0 G) {aT aD : Nat} (hT : S[aT]? = some (20, 48)) (hD : S[aD]? = some (20, 9)) {z : Row} (hET : ET (I aT) z) (hED : ED (I aD) z) (hn : z 98 ≤ 6) (hb : wfB z) {w : Int} (hw : 0 ≤ w ∧ w ≤ 10) (hQ : Q (Sum.inl (some (aI (cntZ z w)))) (I, R, L, S, x, 0, 0)) : CT G sL_counted [aI w, aR (some aT), aR (some aD)] (I, R, L, S, x, c, t) Q := by
  refine CT_of ok_L_counted hG (Nat.le_of_ble_eq_true rfl) ?_
  show X G mL_counted Q 0 _ [] (I, R, L, S, x, 0, 0)
  refine B_L_counted_0 ?_
  try dsimp only
  refine ⟨fun c2_0 => ?_, fun c2_0 => ?_⟩
  · refine B_L_counted_9 ?_
    try dsimp only
    refine ⟨fun c11_1 => ?_, fun c11_1 => ?_⟩
    · refine B_L_counted_60 ?_
      try dsimp only
      exact KL_counted hG hT hD hET hED hn hb (by omega) hQ 8 0 0 (by decide) ⟨by omega, hb.2.1.1⟩ (by
        unfold cnN
        rcases (by omega : w = 2 ∨ w = 3 ∨ w = 9 ∨ w = 10) with q | q | q | q <;> subst q <;> rfl)
    · refine ⟨fun c17_1 => ?_, fun c17_1 => ?_⟩
      · refine B_L_counted_60 ?_
        try dsimp only
        exact KL_counted hG hT hD hET hED hn hb (by omega) hQ 8 0 0 (by decide) ⟨by omega, hb.2.1.1⟩ (by
          unfold cnN
          rcases (by omega : w = 2 ∨ w = 3 ∨ w = 9 ∨ w = 10) with q | q | q | q <;> subst q <;> rfl)
      · refine ⟨fun c22_1 => ?_, fun c22_1 => ?_⟩
        · refine B_L_counted_31 ?_
          try dsimp only
          refine ⟨fun c33_2 => ?_, fun c33_2 => ?_⟩
          · refine B_L_counted_42 ?_
            try dsimp only
            refine ⟨fun c45_3 => ?_, fun c45_3 => ?_⟩
            · refine B_L_counted_54 ?_
              try dsimp only
              refine ⟨by (refine ⟨?_, ?_⟩ <;> omega), ?_⟩
              refine ⟨_, hD, ⟨by omega, by omega⟩, ?_⟩
              refine B_L_counted_59 ?_
              try dsimp only
              refine Qe hQ ?_
              first
                | exact cnt_d hED (by omega)
                | exact cnt_78 hED (by omega)
                | (obtain rfl : w = 4 := by omega
                   exact cnt_4 hED)
                | (obtain rfl : w = 5 := by omega
                   exact cnt_5 hED)
                | (obtain rfl : w = 6 := by omega
                   exact cnt_6 hED)
            · refine ⟨_, hD, ⟨by omega, by omega⟩, ?_⟩
              refine B_L_counted_59 ?_
              try dsimp only
              refine Qe hQ ?_
              first
                | exact cnt_d hED (by omega)
                | exact cnt_78 hED (by omega)
                | (obtain rfl : w = 4 := by omega
                   exact cnt_4 hED)
                | (obtain rfl : w = 5 := by omega
                   exact cnt_5 hED)
                | (obtain rfl : w = 6 := by omega
                   exact cnt_6 hED)
          · refine ⟨_, hD, ⟨by omega, by omega⟩, ?_⟩
            refine B_L_counted_59 ?_
            try dsimp only
            refine Qe hQ ?_
            first
              | exact cnt_d hED (by omega)
              | exact cnt_78 hED (by omega)
              | (obtain rfl : w = 4 := by omega
                 exact cnt_4 hED)
              | (obtain rfl : w = 5 := by omega
                 exact cnt_5 hED)
              | (obtain rfl : w = 6 := by omega
                 exact cnt_6 hED)
        · refine ⟨_, hD, ⟨by omega, by omega⟩, ?_⟩
          refine B_L_counted_59 ?_
          try dsimp only
          refine Qe hQ ?_
          first
            | exact cnt_d hED (by omega)
            | exact cnt_78 hED (by omega)
            | (obtain rfl : w = 4 := by omega
               exact cnt_4 hED)
            | (obtain rfl : w = 5 := by omega
               exact cnt_5 hED)
            | (obtain rfl : w = 6 := by omega
               exact cnt_6 hED)
  · refine ⟨_, hD, ⟨by omega, by omega⟩, ?_⟩
    refine Qe hQ ?_
    first
      | exact cnt_d hED (by omega)
      | exact cnt_78 hED (by omega)
      | (obtain rfl : w = 4 := by omega
         exact cnt_4 hED)
      | (obtain rfl : w = 5 := by omega
         exact cnt_5 hED)
      | (obtain rfl : w = 6 := by omega
         exact cnt_6 hED)
