/-! ===== the model: texts are loaded ===== -/
theorem txH_m3 (I : Nat → Nat → Int) (z f q : Row) (w d o : Int) (r : Row) : txH (m3 I z f q) w d o r = m3 (txH I w d o r) z f q := funext (fun a => by
  unfold txH m3
  by_cases h1 : a = 362
  · rw [if_neg (show ¬ a = 368 by omega), if_neg (show ¬ a = 361 by omega), if_pos h1, if_pos h1]
  · by_cases h2 : a = 365
    · rw [if_neg (show ¬ a = 368 by omega), if_neg (show ¬ a = 361 by omega), if_neg h1, if_pos h2, if_neg h1, if_pos h2]
    · by_cases h3 : a = 366
      · rw [if_neg (show ¬ a = 368 by omega), if_neg (show ¬ a = 361 by omega), if_neg h1, if_neg h2, if_pos h3, if_neg h1, if_neg h2, if_pos h3]
      · simp only [if_neg h1, if_neg h2, if_neg h3]
        rfl)
theorem svH_x (I : Nat → Nat → Int) (z : Row) {a : Nat} (k : Nat) (h : a ≠ 361 ∧ a ≠ 363) : svH I z a k = I a k := by rw [svH_off I z h]
/-- what a text that has been read through tells -/
def rOK (r : Row) (o : Int) : Prop := ∀ i : Nat, (i : Int) ≤ o → (0 ≤ r (3 * i) ∧ r (3 * i) ≤ 11) ∧ (0 ≤ r (3 * i + 1) ∧ r (3 * i + 1) ≤ 11) ∧ 0 ≤ r (3 * i + 2) ∧ r (3 * i + 2) ≤ 7
theorem pI_rOK {k : Nat} {s : TS} (h : pI k s) (hw : s.1 = 2) (hd : 0 < s.2.1) : rOK s.2.2.2 s.2.2.1 := fun i hi => by
  obtain ⟨h1, h2, h3, h4, h5, h6⟩ := h
  have a := h6 (3 * i) (by omega)
  have b := h6 (3 * i + 1) (by omega)
  rw [if_neg (show ¬ (3 * i % 3 = 2) by omega)] at a
  rw [if_neg (show ¬ ((3 * i + 1) % 3 = 2) by omega)] at b
  refine ⟨a, b, ?_⟩
  rcases (by omega : (i : Int) < s.2.2.1 ∨ (3 * s.2.2.1 + s.1).toNat = 3 * i + 2) with q | q
  · have c := h6 (3 * i + 2) (by omega)
    rw [if_pos (show (3 * i + 2) % 3 = 2 by omega)] at c
    exact c
  · have h7 := h5 hw hd
    unfold vS at h4 h7
    rw [q] at h4 h7
    omega
/-- the first m orders of a text are given -/
def ldZ (z r : Row) : Nat → Row
  | 0 => z
  | m + 1 => giveZ (ldZ z r m) (r (3 * m)) (12 * r (3 * m + 2) + r (3 * m + 1))
theorem ldZ_s (z r : Row) (m : Nat) : ldZ z r (m + 1) = giveZ (ldZ z r m) (r (3 * m)) (12 * r (3 * m + 2) + r (3 * m + 1)) := rfl
def ldC (z r : Row) (m : Nat) : Prop := r (3 * m) < z 98 ∧ whyN (ldZ z r m) (r (3 * m)).toNat = 0
theorem ldZ_WF {z r : Row} {o : Int} (hW : WF z) (hm : z 316 ≤ 1000) (hg : z 317 ≤ 80000) (hr : rOK r o) (ho : o ≤ 100) : ∀ m : Nat, (m : Int) ≤ o + 1 → (∀ i : Nat, i < m → ldC z r i) → WF (ldZ z r m) ∧ ldZ z r m 98 = z 98 ∧ ldZ z r m 316 = z 316 ∧ ldZ z r m 317 = z 317 + m ∧ (∀ i : Nat, i < 195 → ldZ z r m i = z i) := by
  intro m
  induction m with
  | zero => intro _ _; exact ⟨hW, rfl, rfl, by show z 317 = z 317 + ((0 : Nat) : Int); omega, fun i _ => rfl⟩
  | succ m ih =>
    intro h1 h2
    obtain ⟨a1, a2, a3, a4, a5⟩ := ih (by omega) (fun i hi => h2 i (by omega))
    have hc := h2 m (by omega)
    have hr := hr m (by omega)
    have hw := whyN_0 hc.2
    have h30 := a1.2.1.1
    obtain ⟨g1, g2, g3, g4, g5⟩ := giveZ_at (z := ldZ z r m) (r (3 * m)) (12 * r (3 * m + 2) + r (3 * m + 1)) (by omega)
    rw [ldZ_s]
    have hc1 := hc.1
    refine ⟨giveZ_WF a1 (by omega) (by omega) (by unfold isC; omega) hc.2 (by omega), by rw [g1 98 (by omega), a2], by rw [g1 316 (by omega), a3], by omega, fun i hi => by rw [g1 i (by omega), a5 i hi]⟩
theorem C_firstError {G : amG} {I : Nat → Nat → Int} {z f q : Row} {R : Nat → Nat → Option Nat} {L : Nat → Nat → Int64} {x c t : Nat} {Q : amR → amH → Prop} (hG : amG0 G) (hR : RM R) (hl : 0 ≤ I 361 4 ∧ I 361 4 ≤ 60) (ht : ∀ k : Nat, k < 60 → 0 ≤ I 364 k ∧ I 364 k ≤ 1000) (hQ : ∀ (k : Nat) (s : TS), (k : Int) ≤ I 361 4 → pS (I 364) (I 368) k = some s → ((k : Int) = I 361 4 ∨ pS (I 364) (I 368) (k + 1) = none) → Q (Sum.inl (some (aI k))) (m3 (txH (u2 I 361 0 0) s.1 s.2.1 s.2.2.1 s.2.2.2) z f q, R, L, SH, x, 0, 0)) : CT G sX10_firstError [aR (some 361)] (m3 I z f q, R, L, SH, x, c, t) Q := by
  refine CT_of ok_X10_firstError hG (Nat.le_of_ble_eq_true rfl) ?_
  show X G mX10_firstError Q 0 _ [] (m3 I z f q, R, L, SH, x, 0, 0)
  refine B_X10_firstError_0 ?_
  try dsimp only
  try simp (disch := omega) only [m3_z, m3_f, m3_q, m3_o, u2_m3_z, u2_m3_f, u2_m3_q, u2_m3_o, pr_at, pr_off, u2_pr, u2_at, u2_off, uz_same, uz_ne, Int.reduceToNat]
  refine ⟨sh361, ?_⟩
  try simp (disch := omega) only [m3_z, m3_f, m3_q, m3_o, u2_m3_z, u2_m3_f, u2_m3_q, u2_m3_o, pr_at, pr_off, u2_pr, u2_at, u2_off, uz_same, uz_ne, Int.reduceToNat]
  refine ⟨⟨Nat.zero_le _, Nat.zero_le _, Nat.le_of_ble_eq_true rfl⟩, sh361, ?_⟩
  refine C_readText hG hR (by simp (disch := omega) only [m3_o, u2_at, u2_off, uz_ne]; exact hl) (by simp (disch := omega) only [m3_o, u2_at, u2_off, uz_ne]; exact ht) (fun k s h1 h2 h3 => ?_)
  simp (disch := omega) only [m3_o, u2_at, u2_off, uz_ne] at h1 h2 h3
  rw [txH_m3]
  refine af_I0 rfl rfl (by decide) ?_
  try dsimp only
  try simp (disch := omega) only [m3_z, m3_f, m3_q, m3_o, u2_m3_z, u2_m3_f, u2_m3_q, u2_m3_o, pr_at, pr_off, u2_pr, u2_at, u2_off, uz_same, uz_ne, Int.reduceToNat]
  refine B_X10_firstError_9 ?_
  try dsimp only
  try simp (disch := omega) only [m3_z, m3_f, m3_q, m3_o, u2_m3_z, u2_m3_f, u2_m3_q, u2_m3_o, pr_at, pr_off, u2_pr, u2_at, u2_off, uz_same, uz_ne, Int.reduceToNat]
  exact hQ k s h1 h2 h3
theorem C_append {G : amG} {I : Nat → Nat → Int} {z f q : Row} {R : Nat → Nat → Option Nat} {L : Nat → Nat → Int64} {x c t : Nat} {Q : amR → amH → Prop} (hG : amG0 G) (hR : RM R) {v : Int} (hl : 0 ≤ I 361 4 ∧ I 361 4 ≤ 60) (hQ : (¬ (33 ≤ v ∧ v ≤ 126) → Q (Sum.inl (some (aI 0))) (m3 (u2 I 361 0 1) z f q, R, L, SH, x, 0, 0)) ∧ ((33 ≤ v ∧ v ≤ 126) ∧ I 361 4 = 60 → Q (Sum.inl (some (aI 0))) (m3 (u2 I 361 0 2) z f q, R, L, SH, x, 0, 0)) ∧ ((33 ≤ v ∧ v ≤ 126) ∧ I 361 4 ≠ 60 → Q (Sum.inl (some (aI (I 361 4 + 1)))) (m3 (u2 (u2 (u2 I 361 0 0) 364 (I 361 4).toNat v) 361 4 (I 361 4 + 1)) z f q, R, L, SH, x, 0, 0))) : CT G sX10_append [aR (some 361), aI v] (m3 I z f q, R, L, SH, x, c, t) Q := by
  refine CT_of ok_X10_append hG (Nat.le_of_ble_eq_true rfl) ?_
  show X G mX10_append Q 0 _ [] (m3 I z f q, R, L, SH, x, 0, 0)
  refine B_X10_append_0 ?_
  try dsimp only
  try simp (disch := omega) only [m3_z, m3_f, m3_q, m3_o, u2_m3_z, u2_m3_f, u2_m3_q, u2_m3_o, pr_at, pr_off, u2_pr, u2_at, u2_off, uz_same, uz_ne, Int.reduceToNat]
  refine ⟨⟨Nat.zero_le _, Nat.zero_le _, Nat.le_of_ble_eq_true rfl⟩, trivial, ?_⟩
  refine C_within hG (fun r hr => ?_)
  refine af_I0 rfl rfl (by decide) ?_
  try dsimp only
  try simp (disch := omega) only [m3_z, m3_f, m3_q, m3_o, u2_m3_z, u2_m3_f, u2_m3_q, u2_m3_o, pr_at, pr_off, u2_pr, u2_at, u2_off, uz_same, uz_ne, Int.reduceToNat]
  refine B_X10_append_9 ?_
  try dsimp only
  try simp (disch := omega) only [m3_z, m3_f, m3_q, m3_o, u2_m3_z, u2_m3_f, u2_m3_q, u2_m3_o, pr_at, pr_off, u2_pr, u2_at, u2_off, uz_same, uz_ne, Int.reduceToNat]
  refine ⟨fun c9_1 => ?_, fun c9_1 => ?_⟩
  · refine B_X10_append_16 ?_
    try dsimp only
    try simp (disch := omega) only [m3_z, m3_f, m3_q, m3_o, u2_m3_z, u2_m3_f, u2_m3_q, u2_m3_o, pr_at, pr_off, u2_pr, u2_at, u2_off, uz_same, uz_ne, Int.reduceToNat]
    refine ⟨sh361, ?_⟩
    refine ⟨fun c22_2 => ?_, fun c22_2 => ?_⟩
    · refine B_X10_append_29 ?_
      try dsimp only
      try simp (disch := omega) only [m3_z, m3_f, m3_q, m3_o, u2_m3_z, u2_m3_f, u2_m3_q, u2_m3_o, pr_at, pr_off, u2_pr, u2_at, u2_off, uz_same, uz_ne, Int.reduceToNat]
      refine B_X10_append_30 ?_
      try dsimp only
      try simp (disch := omega) only [m3_z, m3_f, m3_q, m3_o, u2_m3_z, u2_m3_f, u2_m3_q, u2_m3_o, pr_at, pr_off, u2_pr, u2_at, u2_off, uz_same, uz_ne, Int.reduceToNat]
      refine ⟨sh361, ?_⟩
      try simp (disch := omega) only [m3_z, m3_f, m3_q, m3_o, u2_m3_z, u2_m3_f, u2_m3_q, u2_m3_o, pr_at, pr_off, u2_pr, u2_at, u2_off, uz_same, uz_ne, Int.reduceToNat]
      refine ⟨sh361, ?_⟩
      refine ⟨fun c37_4 => ?_, fun c37_4 => ?_⟩
      · refine B_X10_append_42 ?_
        try dsimp only
        try simp (disch := omega) only [m3_z, m3_f, m3_q, m3_o, u2_m3_z, u2_m3_f, u2_m3_q, u2_m3_o, pr_at, pr_off, u2_pr, u2_at, u2_off, uz_same, uz_ne, Int.reduceToNat]
        first
          | (exfalso; omega)
          | exact absurd True.intro (by assumption)
          | (refine ⟨sh361, _, hR.text, ?_⟩
             refine ⟨sh361, ?_⟩
             refine ⟨_, sh364, ⟨by omega, by omega⟩, ?_⟩
             try simp (disch := omega) only [m3_z, m3_f, m3_q, m3_o, u2_m3_z, u2_m3_f, u2_m3_q, u2_m3_o, pr_at, pr_off, u2_pr, u2_at, u2_off, uz_same, uz_ne, Int.reduceToNat]
             refine ⟨rfl, ?_⟩
             refine ⟨sh361, ?_⟩
             refine ⟨by (refine ⟨?_, ?_⟩ <;> omega), ?_⟩
             refine ⟨sh361, ?_⟩
             try simp (disch := omega) only [m3_z, m3_f, m3_q, m3_o, u2_m3_z, u2_m3_f, u2_m3_q, u2_m3_o, pr_at, pr_off, u2_pr, u2_at, u2_off, uz_same, uz_ne, Int.reduceToNat]
             refine ⟨sh361, ?_⟩
             first
               | exact absurd True.intro (by assumption)
               | (exfalso; omega)
               | exact hQ.1 (by omega)
               | exact hQ.2.1 (by omega)
               | exact hQ.2.2 (by omega))
      · first
          | exact absurd True.intro (by assumption)
          | (exfalso; omega)
          | exact hQ.1 (by omega)
          | exact hQ.2.1 (by omega)
          | exact hQ.2.2 (by omega)
    · refine B_X10_append_30 ?_
      try dsimp only
      try simp (disch := omega) only [m3_z, m3_f, m3_q, m3_o, u2_m3_z, u2_m3_f, u2_m3_q, u2_m3_o, pr_at, pr_off, u2_pr, u2_at, u2_off, uz_same, uz_ne, Int.reduceToNat]
      refine ⟨sh361, ?_⟩
      try simp (disch := omega) only [m3_z, m3_f, m3_q, m3_o, u2_m3_z, u2_m3_f, u2_m3_q, u2_m3_o, pr_at, pr_off, u2_pr, u2_at, u2_off, uz_same, uz_ne, Int.reduceToNat]
      refine ⟨sh361, ?_⟩
      refine ⟨fun c37_3 => ?_, fun c37_3 => ?_⟩
      · refine B_X10_append_42 ?_
        try dsimp only
        try simp (disch := omega) only [m3_z, m3_f, m3_q, m3_o, u2_m3_z, u2_m3_f, u2_m3_q, u2_m3_o, pr_at, pr_off, u2_pr, u2_at, u2_off, uz_same, uz_ne, Int.reduceToNat]
        first
          | (exfalso; omega)
          | exact absurd True.intro (by assumption)
          | (refine ⟨sh361, _, hR.text, ?_⟩
             refine ⟨sh361, ?_⟩
             refine ⟨_, sh364, ⟨by omega, by omega⟩, ?_⟩
             try simp (disch := omega) only [m3_z, m3_f, m3_q, m3_o, u2_m3_z, u2_m3_f, u2_m3_q, u2_m3_o, pr_at, pr_off, u2_pr, u2_at, u2_off, uz_same, uz_ne, Int.reduceToNat]
             refine ⟨rfl, ?_⟩
             refine ⟨sh361, ?_⟩
             refine ⟨by (refine ⟨?_, ?_⟩ <;> omega), ?_⟩
             refine ⟨sh361, ?_⟩
             try simp (disch := omega) only [m3_z, m3_f, m3_q, m3_o, u2_m3_z, u2_m3_f, u2_m3_q, u2_m3_o, pr_at, pr_off, u2_pr, u2_at, u2_off, uz_same, uz_ne, Int.reduceToNat]
             refine ⟨sh361, ?_⟩
             first
               | exact absurd True.intro (by assumption)
               | (exfalso; omega)
               | exact hQ.1 (by omega)
               | exact hQ.2.1 (by omega)
               | exact hQ.2.2 (by omega))
      · first
          | exact absurd True.intro (by assumption)
          | (exfalso; omega)
          | exact hQ.1 (by omega)
          | exact hQ.2.1 (by omega)
          | exact hQ.2.2 (by omega)
  · refine B_X10_append_30 ?_
    try dsimp only
    try simp (disch := omega) only [m3_z, m3_f, m3_q, m3_o, u2_m3_z, u2_m3_f, u2_m3_q, u2_m3_o, pr_at, pr_off, u2_pr, u2_at, u2_off, uz_same, uz_ne, Int.reduceToNat]
    refine ⟨sh361, ?_⟩
    try simp (disch := omega) only [m3_z, m3_f, m3_q, m3_o, u2_m3_z, u2_m3_f, u2_m3_q, u2_m3_o, pr_at, pr_off, u2_pr, u2_at, u2_off, uz_same, uz_ne, Int.reduceToNat]
    refine ⟨sh361, ?_⟩
    refine ⟨fun c37_2 => ?_, fun c37_2 => ?_⟩
    · refine B_X10_append_42 ?_
      try dsimp only
      try simp (disch := omega) only [m3_z, m3_f, m3_q, m3_o, u2_m3_z, u2_m3_f, u2_m3_q, u2_m3_o, pr_at, pr_off, u2_pr, u2_at, u2_off, uz_same, uz_ne, Int.reduceToNat]
      first
        | (exfalso; omega)
        | exact absurd True.intro (by assumption)
        | (refine ⟨sh361, _, hR.text, ?_⟩
           refine ⟨sh361, ?_⟩
           refine ⟨_, sh364, ⟨by omega, by omega⟩, ?_⟩
           try simp (disch := omega) only [m3_z, m3_f, m3_q, m3_o, u2_m3_z, u2_m3_f, u2_m3_q, u2_m3_o, pr_at, pr_off, u2_pr, u2_at, u2_off, uz_same, uz_ne, Int.reduceToNat]
           refine ⟨rfl, ?_⟩
           refine ⟨sh361, ?_⟩
           refine ⟨by (refine ⟨?_, ?_⟩ <;> omega), ?_⟩
           refine ⟨sh361, ?_⟩
           try simp (disch := omega) only [m3_z, m3_f, m3_q, m3_o, u2_m3_z, u2_m3_f, u2_m3_q, u2_m3_o, pr_at, pr_off, u2_pr, u2_at, u2_off, uz_same, uz_ne, Int.reduceToNat]
           refine ⟨sh361, ?_⟩
           first
             | exact absurd True.intro (by assumption)
             | (exfalso; omega)
             | exact hQ.1 (by omega)
             | exact hQ.2.1 (by omega)
             | exact hQ.2.2 (by omega))
    · first
        | exact absurd True.intro (by assumption)
        | (exfalso; omega)
        | exact hQ.1 (by omega)
        | exact hQ.2.1 (by omega)
        | exact hQ.2.2 (by omega)
theorem C_clearBuffer {G : amG} {I : Nat → Nat → Int} {z f q : Row} {R : Nat → Nat → Option Nat} {L : Nat → Nat → Int64} {x c t : Nat} {Q : amR → amH → Prop} (hG : amG0 G) (hR : RM R) (hQ : Q (Sum.inl (some (aI (I 361 4)))) (m3 (u2 (u2 I 361 0 0) 361 4 0) z f q, R, L, SH, x, 0, 0)) : CT G sX10_clearBuffer [aR (some 361)] (m3 I z f q, R, L, SH, x, c, t) Q := by
  refine CT_of ok_X10_clearBuffer hG (Nat.le_of_ble_eq_true rfl) ?_
  show X G mX10_clearBuffer Q 0 _ [] (m3 I z f q, R, L, SH, x, 0, 0)
  refine B_X10_clearBuffer_0 ?_
  try dsimp only
  try simp (disch := omega) only [m3_z, m3_f, m3_q, m3_o, u2_m3_z, u2_m3_f, u2_m3_q, u2_m3_o, pr_at, pr_off, u2_pr, u2_at, u2_off, uz_same, uz_ne, Int.reduceToNat]
  refine ⟨sh361, ?_⟩
  try simp (disch := omega) only [m3_z, m3_f, m3_q, m3_o, u2_m3_z, u2_m3_f, u2_m3_q, u2_m3_o, pr_at, pr_off, u2_pr, u2_at, u2_off, uz_same, uz_ne, Int.reduceToNat]
  refine ⟨sh361, ?_⟩
  refine ⟨sh361, ?_⟩
  try simp (disch := omega) only [m3_z, m3_f, m3_q, m3_o, u2_m3_z, u2_m3_f, u2_m3_q, u2_m3_o, pr_at, pr_off, u2_pr, u2_at, u2_off, uz_same, uz_ne, Int.reduceToNat]
  exact hQ
theorem L_load {G : amG} {I : Nat → Nat → Int} {R : Nat → Nat → Option Nat} {L : Nat → Nat → Int64} {x : Nat} {Q : amR → amH → Prop} (hG : amG0 G) (hR : RM R) {z r : Row} {o : Int} {l1 : Int} (ho : 0 ≤ o ∧ o ≤ 12) (hJo : I 361 11 = o) (hJr : I 368 = r) (hW : WF z) (hm : z 316 ≤ 1000) (hg : z 317 ≤ 80000) (hr : rOK r o) (hQ : ∀ (m : Nat) (f q : Row), (m : Int) ≤ o + 1 → (∀ i : Nat, i < m → ldC z r i) → ((m : Int) = o + 1 ∨ ¬ ldC z r m) → Q (Sum.inl (some (aI m))) (m3 (u2 I 361 4 0) (ldZ z r m) f q, R, L, SH, x, 0, 0)) :
    ∀ (n : Nat) (j : Int) (f q : Row), (0 ≤ j ∧ j ≤ o + 1 ∧ o + 1 - j < n) → (∀ i : Nat, i < j.toNat → ldC z r i) → X G mX10_load Q 60 [some (aR (some 361)), some (aI l1), some (aI j)] [] (m3 I (ldZ z r j.toNat) f q, R, L, SH, x, 0, 0) := by
  intro n
  induction n with
  | zero =>
    intros
    exfalso; omega
  | succ n ih =>
    intro j f q h1 hc
    obtain ⟨w1, w2, w3, w4, w5⟩ := ldZ_WF hW hm hg hr (by omega) j.toNat (by omega) hc
    have hs := ldZ_s z r j.toNat
    have hn2 := hW.1.2.1.2
    have hn1 := hW.1.2.1.1
    have hC := w1.2.2
    unfold wfC at hC
    have hO := w1.2.1.1
    have e0 : (3 * j).toNat = 3 * j.toNat := by omega
    have e1 : (3 * j + 1).toNat = 3 * j.toNat + 1 := by omega
    have e2 : (3 * j + 2).toNat = 3 * j.toNat + 2 := by omega
    have hQ' : (j = o + 1 ∨ ¬ ldC z r j.toNat) → Q (Sum.inl (some (aI j))) (m3 (u2 I 361 4 0) (ldZ z r j.toNat) f q, R, L, SH, x, 0, 0) := fun h => by
      have := hQ j.toNat f q (by omega) hc (by rcases h with h | h; exact Or.inl (by omega); exact Or.inr h)
      rw [show ((j.toNat : Nat) : Int) = j by omega] at this
      exact this
    refine B_X10_load_60 ?_
    try dsimp only
    (try simp (disch := omega) only [m3_z, m3_f, m3_q, m3_o, u2_m3_z, u2_m3_f, u2_m3_q, u2_m3_o, pr_at, pr_off, u2_pr, u2_at, u2_off, uz_same, uz_ne, Int.reduceToNat]; try simp only [hJo, hJr, e0, e1, e2])
    refine ⟨sh361, ?_⟩
    refine ⟨fun c65_0 => ?_, fun c65_0 => ?_⟩
    · refine B_X10_load_141 ?_
      try dsimp only
      (try simp (disch := omega) only [m3_z, m3_f, m3_q, m3_o, u2_m3_z, u2_m3_f, u2_m3_q, u2_m3_o, pr_at, pr_off, u2_pr, u2_at, u2_off, uz_same, uz_ne, Int.reduceToNat]; try simp only [hJo, hJr, e0, e1, e2])
      refine ⟨sh361, ?_⟩
      (try simp (disch := omega) only [m3_z, m3_f, m3_q, m3_o, u2_m3_z, u2_m3_f, u2_m3_q, u2_m3_o, pr_at, pr_off, u2_pr, u2_at, u2_off, uz_same, uz_ne, Int.reduceToNat]; try simp only [hJo, hJr, e0, e1, e2])
      first
        | exact hQ' (Or.inl (by omega))
        | (refine hQ' (Or.inr (fun u => ?_))
           have u1 := u.1
           have u2 := u.2
           omega)
        | (have hQ2 := hQ j.toNat f2 q2 (by omega) hc (Or.inr (fun u => by have u2 := u.2; omega))
           rw [show ((j.toNat : Nat) : Int) = j by omega] at hQ2
           exact hQ2)
    · have hrr := hr j.toNat (by omega)
      refine ⟨sh361, _, hR.read, ?_⟩
      refine ⟨by (refine ⟨?_, ?_⟩ <;> omega), ?_⟩
      refine ⟨_, sh368, ⟨by omega, by omega⟩, ?_⟩
      (try simp (disch := omega) only [m3_z, m3_f, m3_q, m3_o, u2_m3_z, u2_m3_f, u2_m3_q, u2_m3_o, pr_at, pr_off, u2_pr, u2_at, u2_off, uz_same, uz_ne, Int.reduceToNat]; try simp only [hJo, hJr, e0, e1, e2])
      refine ⟨⟨Nat.zero_le _, Nat.zero_le _, Nat.le_of_ble_eq_true rfl⟩, sh361, ?_⟩
      refine C_isTroop hG hR (I := m3 I (ldZ z r j.toNat) f q) (by rw [m3_z]; exact w1.1.2.1) (fun b hb => ?_)
      rw [m3_z, w2] at hb
      refine af_I0 rfl rfl (by decide) ?_
      try dsimp only
      (try simp (disch := omega) only [m3_z, m3_f, m3_q, m3_o, u2_m3_z, u2_m3_f, u2_m3_q, u2_m3_o, pr_at, pr_off, u2_pr, u2_at, u2_off, uz_same, uz_ne, Int.reduceToNat]; try simp only [hJo, hJr, e0, e1, e2])
      refine B_X10_load_80 ?_
      try dsimp only
      (try simp (disch := omega) only [m3_z, m3_f, m3_q, m3_o, u2_m3_z, u2_m3_f, u2_m3_q, u2_m3_o, pr_at, pr_off, u2_pr, u2_at, u2_off, uz_same, uz_ne, Int.reduceToNat]; try simp only [hJo, hJr, e0, e1, e2])
      refine ⟨fun c80_1 => ?_, fun c80_1 => ?_⟩
      · refine B_X10_load_141 ?_
        try dsimp only
        (try simp (disch := omega) only [m3_z, m3_f, m3_q, m3_o, u2_m3_z, u2_m3_f, u2_m3_q, u2_m3_o, pr_at, pr_off, u2_pr, u2_at, u2_off, uz_same, uz_ne, Int.reduceToNat]; try simp only [hJo, hJr, e0, e1, e2])
        refine ⟨sh361, ?_⟩
        (try simp (disch := omega) only [m3_z, m3_f, m3_q, m3_o, u2_m3_z, u2_m3_f, u2_m3_q, u2_m3_o, pr_at, pr_off, u2_pr, u2_at, u2_off, uz_same, uz_ne, Int.reduceToNat]; try simp only [hJo, hJr, e0, e1, e2])
        first
          | exact hQ' (Or.inl (by omega))
          | (refine hQ' (Or.inr (fun u => ?_))
             have u1 := u.1
             have u2 := u.2
             omega)
          | (have hQ2 := hQ j.toNat f2 q2 (by omega) hc (Or.inr (fun u => by have u2 := u.2; omega))
             rw [show ((j.toNat : Nat) : Int) = j by omega] at hQ2
             exact hQ2)
      · refine ⟨sh361, _, hR.read, ?_⟩
        refine ⟨by (refine ⟨?_, ?_⟩ <;> omega), ?_⟩
        refine ⟨_, sh368, ⟨by omega, by omega⟩, ?_⟩
        (try simp (disch := omega) only [m3_z, m3_f, m3_q, m3_o, u2_m3_z, u2_m3_f, u2_m3_q, u2_m3_o, pr_at, pr_off, u2_pr, u2_at, u2_off, uz_same, uz_ne, Int.reduceToNat]; try simp only [hJo, hJr, e0, e1, e2])
        refine ⟨⟨Nat.zero_le _, Nat.zero_le _, Nat.le_of_ble_eq_true rfl⟩, sh361, ?_⟩
        refine C_whyNot hG hR w1.1.1 w1.1.2.1 w1.1.2.2.1 w1.1.2.2.2.2.1 (by omega) (fun f2 q2 => ?_)
        refine af_I0 rfl rfl (by decide) ?_
        try dsimp only
        (try simp (disch := omega) only [m3_z, m3_f, m3_q, m3_o, u2_m3_z, u2_m3_f, u2_m3_q, u2_m3_o, pr_at, pr_off, u2_pr, u2_at, u2_off, uz_same, uz_ne, Int.reduceToNat]; try simp only [hJo, hJr, e0, e1, e2])
        refine B_X10_load_95 ?_
        try dsimp only
        (try simp (disch := omega) only [m3_z, m3_f, m3_q, m3_o, u2_m3_z, u2_m3_f, u2_m3_q, u2_m3_o, pr_at, pr_off, u2_pr, u2_at, u2_off, uz_same, uz_ne, Int.reduceToNat]; try simp only [hJo, hJr, e0, e1, e2])
        refine ⟨fun c95_2 => ?_, fun c95_2 => ?_⟩
        · refine B_X10_load_141 ?_
          try dsimp only
          (try simp (disch := omega) only [m3_z, m3_f, m3_q, m3_o, u2_m3_z, u2_m3_f, u2_m3_q, u2_m3_o, pr_at, pr_off, u2_pr, u2_at, u2_off, uz_same, uz_ne, Int.reduceToNat]; try simp only [hJo, hJr, e0, e1, e2])
          refine ⟨sh361, ?_⟩
          (try simp (disch := omega) only [m3_z, m3_f, m3_q, m3_o, u2_m3_z, u2_m3_f, u2_m3_q, u2_m3_o, pr_at, pr_off, u2_pr, u2_at, u2_off, uz_same, uz_ne, Int.reduceToNat]; try simp only [hJo, hJr, e0, e1, e2])
          first
            | exact hQ' (Or.inl (by omega))
            | (refine hQ' (Or.inr (fun u => ?_))
               have u1 := u.1
               have u2 := u.2
               omega)
            | (have hQ2 := hQ j.toNat f2 q2 (by omega) hc (Or.inr (fun u => by have u2 := u.2; omega))
               rw [show ((j.toNat : Nat) : Int) = j by omega] at hQ2
               exact hQ2)
        · refine ⟨sh361, _, hR.read, ?_⟩
          refine ⟨by (refine ⟨?_, ?_⟩ <;> omega), ?_⟩
          refine ⟨_, sh368, ⟨by omega, by omega⟩, ?_⟩
          (try simp (disch := omega) only [m3_z, m3_f, m3_q, m3_o, u2_m3_z, u2_m3_f, u2_m3_q, u2_m3_o, pr_at, pr_off, u2_pr, u2_at, u2_off, uz_same, uz_ne, Int.reduceToNat]; try simp only [hJo, hJr, e0, e1, e2])
          refine ⟨sh361, _, hR.read, ?_⟩
          refine ⟨by (refine ⟨?_, ?_⟩ <;> omega), ?_⟩
          refine ⟨by (refine ⟨?_, ?_⟩ <;> omega), ?_⟩
          refine ⟨_, sh368, ⟨by omega, by omega⟩, ?_⟩
          (try simp (disch := omega) only [m3_z, m3_f, m3_q, m3_o, u2_m3_z, u2_m3_f, u2_m3_q, u2_m3_o, pr_at, pr_off, u2_pr, u2_at, u2_off, uz_same, uz_ne, Int.reduceToNat]; try simp only [hJo, hJr, e0, e1, e2])
          refine ⟨by (refine ⟨?_, ?_⟩ <;> omega), ?_⟩
          refine ⟨sh361, _, hR.read, ?_⟩
          refine ⟨by (refine ⟨?_, ?_⟩ <;> omega), ?_⟩
          refine ⟨by (refine ⟨?_, ?_⟩ <;> omega), ?_⟩
          refine ⟨_, sh368, ⟨by omega, by omega⟩, ?_⟩
          (try simp (disch := omega) only [m3_z, m3_f, m3_q, m3_o, u2_m3_z, u2_m3_f, u2_m3_q, u2_m3_o, pr_at, pr_off, u2_pr, u2_at, u2_off, uz_same, uz_ne, Int.reduceToNat]; try simp only [hJo, hJr, e0, e1, e2])
          refine ⟨by (refine ⟨?_, ?_⟩ <;> omega), ?_⟩
          refine ⟨⟨Nat.zero_le _, Nat.zero_le _, Nat.le_of_ble_eq_true rfl⟩, sh361, ?_⟩
          have hy : whyN (ldZ z r j.toNat) (r (3 * j.toNat)).toNat = 0 := by omega
          have hyw := whyN_0 hy
          refine C_give hG hR w1.1.1 w1.1.2.1 w1.1.2.2.1 w1.1.2.2.2.2.1 (by omega) (by omega) (by omega) (by omega) (fun f3 q3 => ?_)
          refine af_I0 rfl rfl (by decide) ?_
          try dsimp only
          (try simp (disch := omega) only [m3_z, m3_f, m3_q, m3_o, u2_m3_z, u2_m3_f, u2_m3_q, u2_m3_o, pr_at, pr_off, u2_pr, u2_at, u2_off, uz_same, uz_ne, Int.reduceToNat]; try simp only [hJo, hJr, e0, e1, e2])
          refine B_X10_load_134 ?_
          try dsimp only
          (try simp (disch := omega) only [m3_z, m3_f, m3_q, m3_o, u2_m3_z, u2_m3_f, u2_m3_q, u2_m3_o, pr_at, pr_off, u2_pr, u2_at, u2_off, uz_same, uz_ne, Int.reduceToNat]; try simp only [hJo, hJr, e0, e1, e2])
          refine ⟨rfl, ?_⟩
          refine ⟨by (refine ⟨?_, ?_⟩ <;> omega), ?_⟩
          have e := ih (j + 1) f3 q3 (by omega) (fun i hi => by
            rcases (by omega : i < j.toNat ∨ i = j.toNat) with u | u
            · exact hc i u
            · rw [u]; exact ⟨by omega, hy⟩)
          rw [show (j + 1).toNat = j.toNat + 1 by omega, hs] at e
          exact e
theorem C_load {G : amG} {I : Nat → Nat → Int} {z f q : Row} {R : Nat → Nat → Option Nat} {L : Nat → Nat → Int64} {x c t : Nat} {Q : amR → amH → Prop} (hG : amG0 G) (hR : RM R) (hW : WF z) (hm : z 316 ≤ 1000) (hg : z 317 ≤ 80000) (hsv : 0 ≤ I 361 2 ∧ I 361 2 ≤ 5) (hl : 0 ≤ I 361 4 ∧ I 361 4 ≤ 60) (ht : ∀ k : Nat, k < 60 → 0 ≤ I 364 k ∧ I 364 k ≤ 1000) (hQ : (∀ (k : Nat) (s : TS), (k : Int) ≤ I 361 4 → pS (I 364) (I 368) k = some s → ((k : Int) = I 361 4 ∨ pS (I 364) (I 368) (k + 1) = none) → ¬ ((k : Int) = I 361 4 ∧ s.1 = 2 ∧ 0 < s.2.1) → Q (Sum.inl (some (aI 0))) (m3 (u2 (txH I s.1 s.2.1 s.2.2.1 s.2.2.2) 361 0 1) z f q, R, L, SH, x, 0, 0)) ∧
      (∀ s : TS, pS (I 364) (I 368) (I 361 4).toNat = some s → s.1 = 2 ∧ 0 < s.2.1 → ∀ (m : Nat) (f q : Row), (m : Int) ≤ s.2.2.1 + 1 → (∀ i : Nat, i < m → ldC z s.2.2.2 i) → ((m : Int) = s.2.2.1 + 1 ∨ ¬ ldC z s.2.2.2 m) → Q (Sum.inl (some (aI m))) (m3 (u2 (svH (u2 (txH I s.1 s.2.1 s.2.2.1 s.2.2.2) 361 0 0) z) 361 4 0) (ldZ z s.2.2.2 m) f q, R, L, SH, x, 0, 0))) : CT G sX10_load [aR (some 361)] (m3 I z f q, R, L, SH, x, c, t) Q := by
  refine CT_of ok_X10_load hG (Nat.le_of_ble_eq_true rfl) ?_
  show X G mX10_load Q 0 _ [] (m3 I z f q, R, L, SH, x, 0, 0)
  refine B_X10_load_0 ?_
  try dsimp only
  try simp (disch := omega) only [m3_z, m3_f, m3_q, m3_o, u2_m3_z, u2_m3_f, u2_m3_q, u2_m3_o, pr_at, pr_off, u2_pr, u2_at, u2_off, uz_same, uz_ne, Int.reduceToNat, txH_r, txH_9, txH_10, txH_11, txH_f, txH_o, txH_m3, svH_f, svH_x, svH_off]
  refine ⟨⟨Nat.zero_le _, Nat.zero_le _, Nat.le_of_ble_eq_true rfl⟩, sh361, ?_⟩
  refine C_readText hG hR (by simp (disch := omega) only [m3_o, u2_at, u2_off, uz_ne]; exact hl) (by simp (disch := omega) only [m3_o, u2_at, u2_off, uz_ne]; exact ht) (fun k s h1 h2 h3 => ?_)
  simp (disch := omega) only [m3_o, u2_at, u2_off, uz_ne] at h1 h2 h3
  rw [txH_m3]
  have hpi := pS_inv k s h2
  have hps := hpi.2.2.1
  have hps2 := hpi.1
  have hps3 := hpi.2.1
  refine af_I0 rfl rfl (by decide) ?_
  try dsimp only
  try simp (disch := omega) only [m3_z, m3_f, m3_q, m3_o, u2_m3_z, u2_m3_f, u2_m3_q, u2_m3_o, pr_at, pr_off, u2_pr, u2_at, u2_off, uz_same, uz_ne, Int.reduceToNat, txH_r, txH_9, txH_10, txH_11, txH_f, txH_o, txH_m3, svH_f, svH_x, svH_off]
  refine B_X10_load_4 ?_
  try dsimp only
  try simp (disch := omega) only [m3_z, m3_f, m3_q, m3_o, u2_m3_z, u2_m3_f, u2_m3_q, u2_m3_o, pr_at, pr_off, u2_pr, u2_at, u2_off, uz_same, uz_ne, Int.reduceToNat, txH_r, txH_9, txH_10, txH_11, txH_f, txH_o, txH_m3, svH_f, svH_x, svH_off]
  refine ⟨sh361, ?_⟩
  refine ⟨fun c8_1 => ?_, fun c8_1 => ?_⟩
  · refine B_X10_load_30 ?_
    try dsimp only
    try simp (disch := omega) only [m3_z, m3_f, m3_q, m3_o, u2_m3_z, u2_m3_f, u2_m3_q, u2_m3_o, pr_at, pr_off, u2_pr, u2_at, u2_off, uz_same, uz_ne, Int.reduceToNat, txH_r, txH_9, txH_10, txH_11, txH_f, txH_o, txH_m3, svH_f, svH_x, svH_off]
    refine B_X10_load_31 ?_
    try dsimp only
    try simp (disch := omega) only [m3_z, m3_f, m3_q, m3_o, u2_m3_z, u2_m3_f, u2_m3_q, u2_m3_o, pr_at, pr_off, u2_pr, u2_at, u2_off, uz_same, uz_ne, Int.reduceToNat, txH_r, txH_9, txH_10, txH_11, txH_f, txH_o, txH_m3, svH_f, svH_x, svH_off]
    refine ⟨fun c34_3 => ?_, fun c34_3 => ?_⟩
    · refine B_X10_load_41 ?_
      try dsimp only
      try simp (disch := omega) only [m3_z, m3_f, m3_q, m3_o, u2_m3_z, u2_m3_f, u2_m3_q, u2_m3_o, pr_at, pr_off, u2_pr, u2_at, u2_off, uz_same, uz_ne, Int.reduceToNat, txH_r, txH_9, txH_10, txH_11, txH_f, txH_o, txH_m3, svH_f, svH_x, svH_off]
      refine B_X10_load_42 ?_
      try dsimp only
      try simp (disch := omega) only [m3_z, m3_f, m3_q, m3_o, u2_m3_z, u2_m3_f, u2_m3_q, u2_m3_o, pr_at, pr_off, u2_pr, u2_at, u2_off, uz_same, uz_ne, Int.reduceToNat, txH_r, txH_9, txH_10, txH_11, txH_f, txH_o, txH_m3, svH_f, svH_x, svH_off]
      refine ⟨sh361, ?_⟩
      try simp (disch := omega) only [m3_z, m3_f, m3_q, m3_o, u2_m3_z, u2_m3_f, u2_m3_q, u2_m3_o, pr_at, pr_off, u2_pr, u2_at, u2_off, uz_same, uz_ne, Int.reduceToNat, txH_r, txH_9, txH_10, txH_11, txH_f, txH_o, txH_m3, svH_f, svH_x, svH_off]
      refine ⟨sh361, ?_⟩
      refine ⟨fun c49_5 => ?_, fun c49_5 => ?_⟩
      · refine B_X10_load_54 ?_
        try dsimp only
        try simp (disch := omega) only [m3_z, m3_f, m3_q, m3_o, u2_m3_z, u2_m3_f, u2_m3_q, u2_m3_o, pr_at, pr_off, u2_pr, u2_at, u2_off, uz_same, uz_ne, Int.reduceToNat, txH_r, txH_9, txH_10, txH_11, txH_f, txH_o, txH_m3, svH_f, svH_x, svH_off]
        first
          | (exfalso; omega)
          | exact absurd True.intro (by assumption)
          | (refine ⟨⟨Nat.zero_le _, Nat.zero_le _, Nat.le_of_ble_eq_true rfl⟩, sh361, ?_⟩
             refine C_saveH hG hR (by rw [u2_ne _ _ (by omega), txH_f _ _ _ _ _ (by omega)]; exact hsv) ?_
             refine af_N0 rfl rfl rfl ?_
             try dsimp only
             try simp (disch := omega) only [m3_z, m3_f, m3_q, m3_o, u2_m3_z, u2_m3_f, u2_m3_q, u2_m3_o, pr_at, pr_off, u2_pr, u2_at, u2_off, uz_same, uz_ne, Int.reduceToNat, txH_r, txH_9, txH_10, txH_11, txH_f, txH_o, txH_m3, svH_f, svH_x, svH_off]
             refine B_X10_load_58 ?_
             try dsimp only
             try simp (disch := omega) only [m3_z, m3_f, m3_q, m3_o, u2_m3_z, u2_m3_f, u2_m3_q, u2_m3_o, pr_at, pr_off, u2_pr, u2_at, u2_off, uz_same, uz_ne, Int.reduceToNat, txH_r, txH_9, txH_10, txH_11, txH_f, txH_o, txH_m3, svH_f, svH_x, svH_off]
             have ek : (k : Int) = I 361 4 := by omega
             have h2' : pS (I 364) (I 368) (I 361 4).toNat = some s := by rw [← ek]; exact h2
             refine L_load hG hR (o := s.2.2.1) (r := s.2.2.2) (by split at hps <;> omega) ?_ ?_ hW hm hg (pI_rOK hpi (by omega) (by omega)) (hQ.2 s h2' ⟨by omega, by omega⟩) 14 0 _ _ (by split at hps <;> omega) (fun i hi => absurd hi (Nat.not_lt_zero _))
             · rw [svH_f _ _ (by decide), u2_ne _ _ (by omega), txH_11]
             · rw [svH_off _ _ (by decide), u2_off _ _ _ (by decide), txH_r])
      · first
          | exact absurd True.intro (by assumption)
          | (exfalso; omega)
          | exact hQ.1 k s h1 h2 h3 (by omega)
    · refine B_X10_load_42 ?_
      try dsimp only
      try simp (disch := omega) only [m3_z, m3_f, m3_q, m3_o, u2_m3_z, u2_m3_f, u2_m3_q, u2_m3_o, pr_at, pr_off, u2_pr, u2_at, u2_off, uz_same, uz_ne, Int.reduceToNat, txH_r, txH_9, txH_10, txH_11, txH_f, txH_o, txH_m3, svH_f, svH_x, svH_off]
      refine ⟨sh361, ?_⟩
      try simp (disch := omega) only [m3_z, m3_f, m3_q, m3_o, u2_m3_z, u2_m3_f, u2_m3_q, u2_m3_o, pr_at, pr_off, u2_pr, u2_at, u2_off, uz_same, uz_ne, Int.reduceToNat, txH_r, txH_9, txH_10, txH_11, txH_f, txH_o, txH_m3, svH_f, svH_x, svH_off]
      refine ⟨sh361, ?_⟩
      refine ⟨fun c49_4 => ?_, fun c49_4 => ?_⟩
      · refine B_X10_load_54 ?_
        try dsimp only
        try simp (disch := omega) only [m3_z, m3_f, m3_q, m3_o, u2_m3_z, u2_m3_f, u2_m3_q, u2_m3_o, pr_at, pr_off, u2_pr, u2_at, u2_off, uz_same, uz_ne, Int.reduceToNat, txH_r, txH_9, txH_10, txH_11, txH_f, txH_o, txH_m3, svH_f, svH_x, svH_off]
        first
          | (exfalso; omega)
          | exact absurd True.intro (by assumption)
          | (refine ⟨⟨Nat.zero_le _, Nat.zero_le _, Nat.le_of_ble_eq_true rfl⟩, sh361, ?_⟩
             refine C_saveH hG hR (by rw [u2_ne _ _ (by omega), txH_f _ _ _ _ _ (by omega)]; exact hsv) ?_
             refine af_N0 rfl rfl rfl ?_
             try dsimp only
             try simp (disch := omega) only [m3_z, m3_f, m3_q, m3_o, u2_m3_z, u2_m3_f, u2_m3_q, u2_m3_o, pr_at, pr_off, u2_pr, u2_at, u2_off, uz_same, uz_ne, Int.reduceToNat, txH_r, txH_9, txH_10, txH_11, txH_f, txH_o, txH_m3, svH_f, svH_x, svH_off]
             refine B_X10_load_58 ?_
             try dsimp only
             try simp (disch := omega) only [m3_z, m3_f, m3_q, m3_o, u2_m3_z, u2_m3_f, u2_m3_q, u2_m3_o, pr_at, pr_off, u2_pr, u2_at, u2_off, uz_same, uz_ne, Int.reduceToNat, txH_r, txH_9, txH_10, txH_11, txH_f, txH_o, txH_m3, svH_f, svH_x, svH_off]
             have ek : (k : Int) = I 361 4 := by omega
             have h2' : pS (I 364) (I 368) (I 361 4).toNat = some s := by rw [← ek]; exact h2
             refine L_load hG hR (o := s.2.2.1) (r := s.2.2.2) (by split at hps <;> omega) ?_ ?_ hW hm hg (pI_rOK hpi (by omega) (by omega)) (hQ.2 s h2' ⟨by omega, by omega⟩) 14 0 _ _ (by split at hps <;> omega) (fun i hi => absurd hi (Nat.not_lt_zero _))
             · rw [svH_f _ _ (by decide), u2_ne _ _ (by omega), txH_11]
             · rw [svH_off _ _ (by decide), u2_off _ _ _ (by decide), txH_r])
      · first
          | exact absurd True.intro (by assumption)
          | (exfalso; omega)
          | exact hQ.1 k s h1 h2 h3 (by omega)
  · refine ⟨sh361, ?_⟩
    refine ⟨fun c16_1 => ?_, fun c16_1 => ?_⟩
    · refine B_X10_load_30 ?_
      try dsimp only
      try simp (disch := omega) only [m3_z, m3_f, m3_q, m3_o, u2_m3_z, u2_m3_f, u2_m3_q, u2_m3_o, pr_at, pr_off, u2_pr, u2_at, u2_off, uz_same, uz_ne, Int.reduceToNat, txH_r, txH_9, txH_10, txH_11, txH_f, txH_o, txH_m3, svH_f, svH_x, svH_off]
      refine B_X10_load_31 ?_
      try dsimp only
      try simp (disch := omega) only [m3_z, m3_f, m3_q, m3_o, u2_m3_z, u2_m3_f, u2_m3_q, u2_m3_o, pr_at, pr_off, u2_pr, u2_at, u2_off, uz_same, uz_ne, Int.reduceToNat, txH_r, txH_9, txH_10, txH_11, txH_f, txH_o, txH_m3, svH_f, svH_x, svH_off]
      refine ⟨fun c34_3 => ?_, fun c34_3 => ?_⟩
      · refine B_X10_load_41 ?_
        try dsimp only
        try simp (disch := omega) only [m3_z, m3_f, m3_q, m3_o, u2_m3_z, u2_m3_f, u2_m3_q, u2_m3_o, pr_at, pr_off, u2_pr, u2_at, u2_off, uz_same, uz_ne, Int.reduceToNat, txH_r, txH_9, txH_10, txH_11, txH_f, txH_o, txH_m3, svH_f, svH_x, svH_off]
        refine B_X10_load_42 ?_
        try dsimp only
        try simp (disch := omega) only [m3_z, m3_f, m3_q, m3_o, u2_m3_z, u2_m3_f, u2_m3_q, u2_m3_o, pr_at, pr_off, u2_pr, u2_at, u2_off, uz_same, uz_ne, Int.reduceToNat, txH_r, txH_9, txH_10, txH_11, txH_f, txH_o, txH_m3, svH_f, svH_x, svH_off]
        refine ⟨sh361, ?_⟩
        try simp (disch := omega) only [m3_z, m3_f, m3_q, m3_o, u2_m3_z, u2_m3_f, u2_m3_q, u2_m3_o, pr_at, pr_off, u2_pr, u2_at, u2_off, uz_same, uz_ne, Int.reduceToNat, txH_r, txH_9, txH_10, txH_11, txH_f, txH_o, txH_m3, svH_f, svH_x, svH_off]
        refine ⟨sh361, ?_⟩
        refine ⟨fun c49_5 => ?_, fun c49_5 => ?_⟩
        · refine B_X10_load_54 ?_
          try dsimp only
          try simp (disch := omega) only [m3_z, m3_f, m3_q, m3_o, u2_m3_z, u2_m3_f, u2_m3_q, u2_m3_o, pr_at, pr_off, u2_pr, u2_at, u2_off, uz_same, uz_ne, Int.reduceToNat, txH_r, txH_9, txH_10, txH_11, txH_f, txH_o, txH_m3, svH_f, svH_x, svH_off]
          first
            | (exfalso; omega)
            | exact absurd True.intro (by assumption)
            | (refine ⟨⟨Nat.zero_le _, Nat.zero_le _, Nat.le_of_ble_eq_true rfl⟩, sh361, ?_⟩
               refine C_saveH hG hR (by rw [u2_ne _ _ (by omega), txH_f _ _ _ _ _ (by omega)]; exact hsv) ?_
               refine af_N0 rfl rfl rfl ?_
               try dsimp only
               try simp (disch := omega) only [m3_z, m3_f, m3_q, m3_o, u2_m3_z, u2_m3_f, u2_m3_q, u2_m3_o, pr_at, pr_off, u2_pr, u2_at, u2_off, uz_same, uz_ne, Int.reduceToNat, txH_r, txH_9, txH_10, txH_11, txH_f, txH_o, txH_m3, svH_f, svH_x, svH_off]
               refine B_X10_load_58 ?_
               try dsimp only
               try simp (disch := omega) only [m3_z, m3_f, m3_q, m3_o, u2_m3_z, u2_m3_f, u2_m3_q, u2_m3_o, pr_at, pr_off, u2_pr, u2_at, u2_off, uz_same, uz_ne, Int.reduceToNat, txH_r, txH_9, txH_10, txH_11, txH_f, txH_o, txH_m3, svH_f, svH_x, svH_off]
               have ek : (k : Int) = I 361 4 := by omega
               have h2' : pS (I 364) (I 368) (I 361 4).toNat = some s := by rw [← ek]; exact h2
               refine L_load hG hR (o := s.2.2.1) (r := s.2.2.2) (by split at hps <;> omega) ?_ ?_ hW hm hg (pI_rOK hpi (by omega) (by omega)) (hQ.2 s h2' ⟨by omega, by omega⟩) 14 0 _ _ (by split at hps <;> omega) (fun i hi => absurd hi (Nat.not_lt_zero _))
               · rw [svH_f _ _ (by decide), u2_ne _ _ (by omega), txH_11]
               · rw [svH_off _ _ (by decide), u2_off _ _ _ (by decide), txH_r])
        · first
            | exact absurd True.intro (by assumption)
            | (exfalso; omega)
            | exact hQ.1 k s h1 h2 h3 (by omega)
      · refine B_X10_load_42 ?_
        try dsimp only
        try simp (disch := omega) only [m3_z, m3_f, m3_q, m3_o, u2_m3_z, u2_m3_f, u2_m3_q, u2_m3_o, pr_at, pr_off, u2_pr, u2_at, u2_off, uz_same, uz_ne, Int.reduceToNat, txH_r, txH_9, txH_10, txH_11, txH_f, txH_o, txH_m3, svH_f, svH_x, svH_off]
        refine ⟨sh361, ?_⟩
        try simp (disch := omega) only [m3_z, m3_f, m3_q, m3_o, u2_m3_z, u2_m3_f, u2_m3_q, u2_m3_o, pr_at, pr_off, u2_pr, u2_at, u2_off, uz_same, uz_ne, Int.reduceToNat, txH_r, txH_9, txH_10, txH_11, txH_f, txH_o, txH_m3, svH_f, svH_x, svH_off]
        refine ⟨sh361, ?_⟩
        refine ⟨fun c49_4 => ?_, fun c49_4 => ?_⟩
        · refine B_X10_load_54 ?_
          try dsimp only
          try simp (disch := omega) only [m3_z, m3_f, m3_q, m3_o, u2_m3_z, u2_m3_f, u2_m3_q, u2_m3_o, pr_at, pr_off, u2_pr, u2_at, u2_off, uz_same, uz_ne, Int.reduceToNat, txH_r, txH_9, txH_10, txH_11, txH_f, txH_o, txH_m3, svH_f, svH_x, svH_off]
          first
            | (exfalso; omega)
            | exact absurd True.intro (by assumption)
            | (refine ⟨⟨Nat.zero_le _, Nat.zero_le _, Nat.le_of_ble_eq_true rfl⟩, sh361, ?_⟩
               refine C_saveH hG hR (by rw [u2_ne _ _ (by omega), txH_f _ _ _ _ _ (by omega)]; exact hsv) ?_
               refine af_N0 rfl rfl rfl ?_
               try dsimp only
               try simp (disch := omega) only [m3_z, m3_f, m3_q, m3_o, u2_m3_z, u2_m3_f, u2_m3_q, u2_m3_o, pr_at, pr_off, u2_pr, u2_at, u2_off, uz_same, uz_ne, Int.reduceToNat, txH_r, txH_9, txH_10, txH_11, txH_f, txH_o, txH_m3, svH_f, svH_x, svH_off]
               refine B_X10_load_58 ?_
               try dsimp only
               try simp (disch := omega) only [m3_z, m3_f, m3_q, m3_o, u2_m3_z, u2_m3_f, u2_m3_q, u2_m3_o, pr_at, pr_off, u2_pr, u2_at, u2_off, uz_same, uz_ne, Int.reduceToNat, txH_r, txH_9, txH_10, txH_11, txH_f, txH_o, txH_m3, svH_f, svH_x, svH_off]
               have ek : (k : Int) = I 361 4 := by omega
               have h2' : pS (I 364) (I 368) (I 361 4).toNat = some s := by rw [← ek]; exact h2
               refine L_load hG hR (o := s.2.2.1) (r := s.2.2.2) (by split at hps <;> omega) ?_ ?_ hW hm hg (pI_rOK hpi (by omega) (by omega)) (hQ.2 s h2' ⟨by omega, by omega⟩) 14 0 _ _ (by split at hps <;> omega) (fun i hi => absurd hi (Nat.not_lt_zero _))
               · rw [svH_f _ _ (by decide), u2_ne _ _ (by omega), txH_11]
               · rw [svH_off _ _ (by decide), u2_off _ _ _ (by decide), txH_r])
        · first
            | exact absurd True.intro (by assumption)
            | (exfalso; omega)
            | exact hQ.1 k s h1 h2 h3 (by omega)
    · refine ⟨sh361, ?_⟩
      refine ⟨fun c23_1 => ?_, fun c23_1 => ?_⟩
      · refine B_X10_load_30 ?_
        try dsimp only
        try simp (disch := omega) only [m3_z, m3_f, m3_q, m3_o, u2_m3_z, u2_m3_f, u2_m3_q, u2_m3_o, pr_at, pr_off, u2_pr, u2_at, u2_off, uz_same, uz_ne, Int.reduceToNat, txH_r, txH_9, txH_10, txH_11, txH_f, txH_o, txH_m3, svH_f, svH_x, svH_off]
        refine B_X10_load_31 ?_
        try dsimp only
        try simp (disch := omega) only [m3_z, m3_f, m3_q, m3_o, u2_m3_z, u2_m3_f, u2_m3_q, u2_m3_o, pr_at, pr_off, u2_pr, u2_at, u2_off, uz_same, uz_ne, Int.reduceToNat, txH_r, txH_9, txH_10, txH_11, txH_f, txH_o, txH_m3, svH_f, svH_x, svH_off]
        refine ⟨fun c34_3 => ?_, fun c34_3 => ?_⟩
        · refine B_X10_load_41 ?_
          try dsimp only
          try simp (disch := omega) only [m3_z, m3_f, m3_q, m3_o, u2_m3_z, u2_m3_f, u2_m3_q, u2_m3_o, pr_at, pr_off, u2_pr, u2_at, u2_off, uz_same, uz_ne, Int.reduceToNat, txH_r, txH_9, txH_10, txH_11, txH_f, txH_o, txH_m3, svH_f, svH_x, svH_off]
          refine B_X10_load_42 ?_
          try dsimp only
          try simp (disch := omega) only [m3_z, m3_f, m3_q, m3_o, u2_m3_z, u2_m3_f, u2_m3_q, u2_m3_o, pr_at, pr_off, u2_pr, u2_at, u2_off, uz_same, uz_ne, Int.reduceToNat, txH_r, txH_9, txH_10, txH_11, txH_f, txH_o, txH_m3, svH_f, svH_x, svH_off]
          refine ⟨sh361, ?_⟩
          try simp (disch := omega) only [m3_z, m3_f, m3_q, m3_o, u2_m3_z, u2_m3_f, u2_m3_q, u2_m3_o, pr_at, pr_off, u2_pr, u2_at, u2_off, uz_same, uz_ne, Int.reduceToNat, txH_r, txH_9, txH_10, txH_11, txH_f, txH_o, txH_m3, svH_f, svH_x, svH_off]
          refine ⟨sh361, ?_⟩
          refine ⟨fun c49_5 => ?_, fun c49_5 => ?_⟩
          · refine B_X10_load_54 ?_
            try dsimp only
            try simp (disch := omega) only [m3_z, m3_f, m3_q, m3_o, u2_m3_z, u2_m3_f, u2_m3_q, u2_m3_o, pr_at, pr_off, u2_pr, u2_at, u2_off, uz_same, uz_ne, Int.reduceToNat, txH_r, txH_9, txH_10, txH_11, txH_f, txH_o, txH_m3, svH_f, svH_x, svH_off]
            first
              | (exfalso; omega)
              | exact absurd True.intro (by assumption)
              | (refine ⟨⟨Nat.zero_le _, Nat.zero_le _, Nat.le_of_ble_eq_true rfl⟩, sh361, ?_⟩
                 refine C_saveH hG hR (by rw [u2_ne _ _ (by omega), txH_f _ _ _ _ _ (by omega)]; exact hsv) ?_
                 refine af_N0 rfl rfl rfl ?_
                 try dsimp only
                 try simp (disch := omega) only [m3_z, m3_f, m3_q, m3_o, u2_m3_z, u2_m3_f, u2_m3_q, u2_m3_o, pr_at, pr_off, u2_pr, u2_at, u2_off, uz_same, uz_ne, Int.reduceToNat, txH_r, txH_9, txH_10, txH_11, txH_f, txH_o, txH_m3, svH_f, svH_x, svH_off]
                 refine B_X10_load_58 ?_
                 try dsimp only
                 try simp (disch := omega) only [m3_z, m3_f, m3_q, m3_o, u2_m3_z, u2_m3_f, u2_m3_q, u2_m3_o, pr_at, pr_off, u2_pr, u2_at, u2_off, uz_same, uz_ne, Int.reduceToNat, txH_r, txH_9, txH_10, txH_11, txH_f, txH_o, txH_m3, svH_f, svH_x, svH_off]
                 have ek : (k : Int) = I 361 4 := by omega
                 have h2' : pS (I 364) (I 368) (I 361 4).toNat = some s := by rw [← ek]; exact h2
                 refine L_load hG hR (o := s.2.2.1) (r := s.2.2.2) (by split at hps <;> omega) ?_ ?_ hW hm hg (pI_rOK hpi (by omega) (by omega)) (hQ.2 s h2' ⟨by omega, by omega⟩) 14 0 _ _ (by split at hps <;> omega) (fun i hi => absurd hi (Nat.not_lt_zero _))
                 · rw [svH_f _ _ (by decide), u2_ne _ _ (by omega), txH_11]
                 · rw [svH_off _ _ (by decide), u2_off _ _ _ (by decide), txH_r])
          · first
              | exact absurd True.intro (by assumption)
              | (exfalso; omega)
              | exact hQ.1 k s h1 h2 h3 (by omega)
        · refine B_X10_load_42 ?_
          try dsimp only
          try simp (disch := omega) only [m3_z, m3_f, m3_q, m3_o, u2_m3_z, u2_m3_f, u2_m3_q, u2_m3_o, pr_at, pr_off, u2_pr, u2_at, u2_off, uz_same, uz_ne, Int.reduceToNat, txH_r, txH_9, txH_10, txH_11, txH_f, txH_o, txH_m3, svH_f, svH_x, svH_off]
          refine ⟨sh361, ?_⟩
          try simp (disch := omega) only [m3_z, m3_f, m3_q, m3_o, u2_m3_z, u2_m3_f, u2_m3_q, u2_m3_o, pr_at, pr_off, u2_pr, u2_at, u2_off, uz_same, uz_ne, Int.reduceToNat, txH_r, txH_9, txH_10, txH_11, txH_f, txH_o, txH_m3, svH_f, svH_x, svH_off]
          refine ⟨sh361, ?_⟩
          refine ⟨fun c49_4 => ?_, fun c49_4 => ?_⟩
          · refine B_X10_load_54 ?_
            try dsimp only
            try simp (disch := omega) only [m3_z, m3_f, m3_q, m3_o, u2_m3_z, u2_m3_f, u2_m3_q, u2_m3_o, pr_at, pr_off, u2_pr, u2_at, u2_off, uz_same, uz_ne, Int.reduceToNat, txH_r, txH_9, txH_10, txH_11, txH_f, txH_o, txH_m3, svH_f, svH_x, svH_off]
            first
              | (exfalso; omega)
              | exact absurd True.intro (by assumption)
              | (refine ⟨⟨Nat.zero_le _, Nat.zero_le _, Nat.le_of_ble_eq_true rfl⟩, sh361, ?_⟩
                 refine C_saveH hG hR (by rw [u2_ne _ _ (by omega), txH_f _ _ _ _ _ (by omega)]; exact hsv) ?_
                 refine af_N0 rfl rfl rfl ?_
                 try dsimp only
                 try simp (disch := omega) only [m3_z, m3_f, m3_q, m3_o, u2_m3_z, u2_m3_f, u2_m3_q, u2_m3_o, pr_at, pr_off, u2_pr, u2_at, u2_off, uz_same, uz_ne, Int.reduceToNat, txH_r, txH_9, txH_10, txH_11, txH_f, txH_o, txH_m3, svH_f, svH_x, svH_off]
                 refine B_X10_load_58 ?_
                 try dsimp only
                 try simp (disch := omega) only [m3_z, m3_f, m3_q, m3_o, u2_m3_z, u2_m3_f, u2_m3_q, u2_m3_o, pr_at, pr_off, u2_pr, u2_at, u2_off, uz_same, uz_ne, Int.reduceToNat, txH_r, txH_9, txH_10, txH_11, txH_f, txH_o, txH_m3, svH_f, svH_x, svH_off]
                 have ek : (k : Int) = I 361 4 := by omega
                 have h2' : pS (I 364) (I 368) (I 361 4).toNat = some s := by rw [← ek]; exact h2
                 refine L_load hG hR (o := s.2.2.1) (r := s.2.2.2) (by split at hps <;> omega) ?_ ?_ hW hm hg (pI_rOK hpi (by omega) (by omega)) (hQ.2 s h2' ⟨by omega, by omega⟩) 14 0 _ _ (by split at hps <;> omega) (fun i hi => absurd hi (Nat.not_lt_zero _))
                 · rw [svH_f _ _ (by decide), u2_ne _ _ (by omega), txH_11]
                 · rw [svH_off _ _ (by decide), u2_off _ _ _ (by decide), txH_r])
          · first
              | exact absurd True.intro (by assumption)
              | (exfalso; omega)
              | exact hQ.1 k s h1 h2 h3 (by omega)
      · refine B_X10_load_31 ?_
        try dsimp only
        try simp (disch := omega) only [m3_z, m3_f, m3_q, m3_o, u2_m3_z, u2_m3_f, u2_m3_q, u2_m3_o, pr_at, pr_off, u2_pr, u2_at, u2_off, uz_same, uz_ne, Int.reduceToNat, txH_r, txH_9, txH_10, txH_11, txH_f, txH_o, txH_m3, svH_f, svH_x, svH_off]
        refine ⟨fun c34_2 => ?_, fun c34_2 => ?_⟩
        · refine B_X10_load_41 ?_
          try dsimp only
          try simp (disch := omega) only [m3_z, m3_f, m3_q, m3_o, u2_m3_z, u2_m3_f, u2_m3_q, u2_m3_o, pr_at, pr_off, u2_pr, u2_at, u2_off, uz_same, uz_ne, Int.reduceToNat, txH_r, txH_9, txH_10, txH_11, txH_f, txH_o, txH_m3, svH_f, svH_x, svH_off]
          refine B_X10_load_42 ?_
          try dsimp only
          try simp (disch := omega) only [m3_z, m3_f, m3_q, m3_o, u2_m3_z, u2_m3_f, u2_m3_q, u2_m3_o, pr_at, pr_off, u2_pr, u2_at, u2_off, uz_same, uz_ne, Int.reduceToNat, txH_r, txH_9, txH_10, txH_11, txH_f, txH_o, txH_m3, svH_f, svH_x, svH_off]
          refine ⟨sh361, ?_⟩
          try simp (disch := omega) only [m3_z, m3_f, m3_q, m3_o, u2_m3_z, u2_m3_f, u2_m3_q, u2_m3_o, pr_at, pr_off, u2_pr, u2_at, u2_off, uz_same, uz_ne, Int.reduceToNat, txH_r, txH_9, txH_10, txH_11, txH_f, txH_o, txH_m3, svH_f, svH_x, svH_off]
          refine ⟨sh361, ?_⟩
          refine ⟨fun c49_4 => ?_, fun c49_4 => ?_⟩
          · refine B_X10_load_54 ?_
            try dsimp only
            try simp (disch := omega) only [m3_z, m3_f, m3_q, m3_o, u2_m3_z, u2_m3_f, u2_m3_q, u2_m3_o, pr_at, pr_off, u2_pr, u2_at, u2_off, uz_same, uz_ne, Int.reduceToNat, txH_r, txH_9, txH_10, txH_11, txH_f, txH_o, txH_m3, svH_f, svH_x, svH_off]
            first
              | (exfalso; omega)
              | exact absurd True.intro (by assumption)
              | (refine ⟨⟨Nat.zero_le _, Nat.zero_le _, Nat.le_of_ble_eq_true rfl⟩, sh361, ?_⟩
                 refine C_saveH hG hR (by rw [u2_ne _ _ (by omega), txH_f _ _ _ _ _ (by omega)]; exact hsv) ?_
                 refine af_N0 rfl rfl rfl ?_
                 try dsimp only
                 try simp (disch := omega) only [m3_z, m3_f, m3_q, m3_o, u2_m3_z, u2_m3_f, u2_m3_q, u2_m3_o, pr_at, pr_off, u2_pr, u2_at, u2_off, uz_same, uz_ne, Int.reduceToNat, txH_r, txH_9, txH_10, txH_11, txH_f, txH_o, txH_m3, svH_f, svH_x, svH_off]
                 refine B_X10_load_58 ?_
                 try dsimp only
                 try simp (disch := omega) only [m3_z, m3_f, m3_q, m3_o, u2_m3_z, u2_m3_f, u2_m3_q, u2_m3_o, pr_at, pr_off, u2_pr, u2_at, u2_off, uz_same, uz_ne, Int.reduceToNat, txH_r, txH_9, txH_10, txH_11, txH_f, txH_o, txH_m3, svH_f, svH_x, svH_off]
                 have ek : (k : Int) = I 361 4 := by omega
                 have h2' : pS (I 364) (I 368) (I 361 4).toNat = some s := by rw [← ek]; exact h2
                 refine L_load hG hR (o := s.2.2.1) (r := s.2.2.2) (by split at hps <;> omega) ?_ ?_ hW hm hg (pI_rOK hpi (by omega) (by omega)) (hQ.2 s h2' ⟨by omega, by omega⟩) 14 0 _ _ (by split at hps <;> omega) (fun i hi => absurd hi (Nat.not_lt_zero _))
                 · rw [svH_f _ _ (by decide), u2_ne _ _ (by omega), txH_11]
                 · rw [svH_off _ _ (by decide), u2_off _ _ _ (by decide), txH_r])
          · first
              | exact absurd True.intro (by assumption)
              | (exfalso; omega)
              | exact hQ.1 k s h1 h2 h3 (by omega)
        · refine B_X10_load_42 ?_
          try dsimp only
          try simp (disch := omega) only [m3_z, m3_f, m3_q, m3_o, u2_m3_z, u2_m3_f, u2_m3_q, u2_m3_o, pr_at, pr_off, u2_pr, u2_at, u2_off, uz_same, uz_ne, Int.reduceToNat, txH_r, txH_9, txH_10, txH_11, txH_f, txH_o, txH_m3, svH_f, svH_x, svH_off]
          refine ⟨sh361, ?_⟩
          try simp (disch := omega) only [m3_z, m3_f, m3_q, m3_o, u2_m3_z, u2_m3_f, u2_m3_q, u2_m3_o, pr_at, pr_off, u2_pr, u2_at, u2_off, uz_same, uz_ne, Int.reduceToNat, txH_r, txH_9, txH_10, txH_11, txH_f, txH_o, txH_m3, svH_f, svH_x, svH_off]
          refine ⟨sh361, ?_⟩
          refine ⟨fun c49_3 => ?_, fun c49_3 => ?_⟩
          · refine B_X10_load_54 ?_
            try dsimp only
            try simp (disch := omega) only [m3_z, m3_f, m3_q, m3_o, u2_m3_z, u2_m3_f, u2_m3_q, u2_m3_o, pr_at, pr_off, u2_pr, u2_at, u2_off, uz_same, uz_ne, Int.reduceToNat, txH_r, txH_9, txH_10, txH_11, txH_f, txH_o, txH_m3, svH_f, svH_x, svH_off]
            first
              | (exfalso; omega)
              | exact absurd True.intro (by assumption)
              | (refine ⟨⟨Nat.zero_le _, Nat.zero_le _, Nat.le_of_ble_eq_true rfl⟩, sh361, ?_⟩
                 refine C_saveH hG hR (by rw [u2_ne _ _ (by omega), txH_f _ _ _ _ _ (by omega)]; exact hsv) ?_
                 refine af_N0 rfl rfl rfl ?_
                 try dsimp only
                 try simp (disch := omega) only [m3_z, m3_f, m3_q, m3_o, u2_m3_z, u2_m3_f, u2_m3_q, u2_m3_o, pr_at, pr_off, u2_pr, u2_at, u2_off, uz_same, uz_ne, Int.reduceToNat, txH_r, txH_9, txH_10, txH_11, txH_f, txH_o, txH_m3, svH_f, svH_x, svH_off]
                 refine B_X10_load_58 ?_
                 try dsimp only
                 try simp (disch := omega) only [m3_z, m3_f, m3_q, m3_o, u2_m3_z, u2_m3_f, u2_m3_q, u2_m3_o, pr_at, pr_off, u2_pr, u2_at, u2_off, uz_same, uz_ne, Int.reduceToNat, txH_r, txH_9, txH_10, txH_11, txH_f, txH_o, txH_m3, svH_f, svH_x, svH_off]
                 have ek : (k : Int) = I 361 4 := by omega
                 have h2' : pS (I 364) (I 368) (I 361 4).toNat = some s := by rw [← ek]; exact h2
                 refine L_load hG hR (o := s.2.2.1) (r := s.2.2.2) (by split at hps <;> omega) ?_ ?_ hW hm hg (pI_rOK hpi (by omega) (by omega)) (hQ.2 s h2' ⟨by omega, by omega⟩) 14 0 _ _ (by split at hps <;> omega) (fun i hi => absurd hi (Nat.not_lt_zero _))
                 · rw [svH_f _ _ (by decide), u2_ne _ _ (by omega), txH_11]
                 · rw [svH_off _ _ (by decide), u2_off _ _ _ (by decide), txH_r])
          · first
              | exact absurd True.intro (by assumption)
              | (exfalso; omega)
              | exact hQ.1 k s h1 h2 h3 (by omega)
