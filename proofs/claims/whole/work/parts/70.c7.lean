/-! ===== the class: the best post ===== -/
def tmC (z : Row) (c v : Int) : Int := if seeI z c v = 1 then 1 else if dS z c v = -1 then 20 else (dS z c v + 2) / 3
theorem tmC_b {z : Row} {c v : Int} (hc : isC c) (hv : isC v) : 0 ≤ tmC z c v ∧ tmC z c v ≤ 33 := by
  have := dS_b (z := z) hc hv
  unfold tmC
  repeat' split
  all_goals omega
def adN (s z : Row) (v : Int) : Nat → Row
  | 0 => s
  | n + 1 => uz (adN s z v n) n (adN s z v n n + tmC z n v)
theorem adN_s (s z : Row) (v : Int) (n : Nat) : adN s z v (n + 1) = uz (adN s z v n) n (adN s z v n n + tmC z n v) := rfl
theorem adN_at (s z : Row) (v : Int) : ∀ n j : Nat, adN s z v n j = if j < n then s j + tmC z j v else s j := by
  intro n
  induction n with
  | zero => intro j; rfl
  | succ n ih =>
    intro j
    rw [adN_s]
    by_cases e : j = n
    · rw [e, uz_same, ih, if_neg (by omega), if_pos (by omega)]
    · rw [uz_ne _ _ e, ih]
      by_cases c : j < n
      · rw [if_pos c, if_pos (by omega)]
      · rw [if_neg c, if_neg (by omega)]
theorem bpS_val (z : Row) (s : Int) : ∀ n : Nat, (0 ≤ (bpS z s n).1 ∧ (bpS z s n).1 ≤ n) ∧ (bpS z s n).2 = tmN z (bpS z s n).1 s (z 98).toNat := by
  intro n
  induction n with
  | zero =>
    refine ⟨?_, rfl⟩
    show 0 ≤ (0 : Int) ∧ (0 : Int) ≤ ((0 : Nat) : Int)
    omega
  | succ n ih =>
    rw [bpS_s]
    split
    · refine ⟨?_, rfl⟩
      show 0 ≤ ((n + 1 : Nat) : Int) ∧ ((n + 1 : Nat) : Int) ≤ ((n + 1 : Nat) : Int)
      omega
    · exact ⟨by omega, ih.2⟩
theorem L_addTurns {G : amG} {I : Nat → Nat → Int} {R : Nat → Nat → Option Nat} {L : Nat → Nat → Int64} {x : Nat} {Q : amR → amH → Prop} (hG : amG0 G) {b : Nat} (hB : wb b) (hRW : RW R b) {f q s : Row} (hRC : RC R) (hRP : RP R 351) (htk : ∀ t : Nat, t < 96 → I 354 t = 0) {z : Row} (hv : HV I b z) (hh : wfH z) {v : Int} (hc : isC v) (hf : ∀ t : Int, isC t → f t.toNat = dS z v t) (hs0 : ∀ j : Nat, j < 96 → 0 ≤ s j ∧ s j ≤ 1000) (hQ : Q (Sum.inl none) (p3 (pr I 355 (adN s z v 96)) 351 f q, R, L, SH, x, 0, 0)) :
    ∀ (n : Nat) (j : Int) (l4 : Option amV), (0 ≤ j ∧ j ≤ 96 ∧ 96 - j < n) → X G mX0_addTurns Q 12 [some (aR (some 350)), some (aR (some (b + 1))), some (aI v), some (aI j), l4] [] (p3 (pr I 355 (adN s z v j.toNat)) 351 f q, R, L, SH, x, 0, 0) := by
  intro n
  induction n with
  | zero =>
    intros
    exfalso; omega
  | succ n ih =>
    intro j l4 h1
    have hb1 := wb_le hB
    have hs := adN_s s z v j.toNat
    have hat := adN_at s z v j.toNat j.toNat
    rw [if_neg (by omega)] at hat
    rw [hat] at hs
    have hv' : HV (p3 (pr I 355 (adN s z v j.toNat)) 351 f q) b z := fun i hi => by
      rw [p3_o _ _ _ _ (by omega), pr_off _ _ (by omega)]
      exact hv i hi
    refine B_X0_addTurns_12 ?_
    try dsimp only
    try simp (disch := omega) only [p3_f, p3_q, p3_o, u2_p3_o, pr_at, pr_off, u2_pr, hat, uz_same, uz_ne, Nat.reduceAdd]
    refine ⟨fun c15_0 => ?_, fun c15_0 => ?_⟩
    · refine B_X0_addTurns_73 ?_
      try dsimp only
      try simp (disch := omega) only [p3_f, p3_q, p3_o, u2_p3_o, pr_at, pr_off, u2_pr, hat, uz_same, uz_ne, Nat.reduceAdd]
      refine ⟨rfl, ?_⟩
      have e : j.toNat = 96 := by omega
      rw [e]
      exact hQ
    · refine ⟨⟨Nat.zero_le _, Nat.zero_le _, Nat.le_of_ble_eq_true rfl⟩, sw1 hB, ?_⟩
      have hjc : isC j := by unfold isC; omega
      refine D_inSight hG hB hRW hv' hh hjc hc (fun r hr => ?_)
      have hs4 : (seeI z j v = 1 ∧ r = 1) ∨ (seeI z j v = 0 ∧ r = 0) := hr.imp (fun q => ⟨seeI_one q.1, q.2⟩) (fun q => ⟨seeI_zero q.1, q.2⟩)
      have hd1 := dS_b (z := z) hjc hc
      have hfj := hf j hjc
      rw [dS_sym hc hjc] at hfj
      have hd0 : seeI z j v = 0 → dS z j v ≠ 0 := fun u e => by
        have e2 := dS_zero hjc hc e
        rw [e2, seeI_self] at u
        omega
      have hs0j := hs0 j.toNat (by omega)
      refine af_I0 rfl rfl (by decide) ?_
      try dsimp only
      try simp (disch := omega) only [p3_f, p3_q, p3_o, u2_p3_o, pr_at, pr_off, u2_pr, hat, uz_same, uz_ne, Nat.reduceAdd]
      refine B_X0_addTurns_24 ?_
      try dsimp only
      try simp (disch := omega) only [p3_f, p3_q, p3_o, u2_p3_o, pr_at, pr_off, u2_pr, hat, uz_same, uz_ne, Nat.reduceAdd]
      refine ⟨fun c24_1 => ?_, fun c24_1 => ?_⟩
      · refine B_X0_addTurns_31 ?_
        try dsimp only
        try simp (disch := omega) only [p3_f, p3_q, p3_o, u2_p3_o, pr_at, pr_off, u2_pr, hat, uz_same, uz_ne, Nat.reduceAdd]
        refine ⟨sc0, _, hRC.1, ?_⟩
        refine ⟨sp0 hP1, _, hRP.st, ?_⟩
        refine ⟨_, sp1 hP1, ⟨by omega, by omega⟩, ?_⟩
        try simp (disch := omega) only [p3_f, p3_q, p3_o, u2_p3_o, pr_at, pr_off, u2_pr, hat, uz_same, uz_ne, Nat.reduceAdd]
        refine ⟨⟨Nat.zero_le _, Nat.zero_le _, Nat.le_of_ble_eq_true rfl⟩, trivial, ?_⟩
        have hd2 := hd0 (by omega)
        refine D_ridingTurns hG (by omega) (fun r2 hr2 => ?_)
        rw [hfj] at hr2
        refine af_I0 rfl rfl (by decide) ?_
        try dsimp only
        try simp (disch := omega) only [p3_f, p3_q, p3_o, u2_p3_o, pr_at, pr_off, u2_pr, hat, uz_same, uz_ne, Nat.reduceAdd]
        refine B_X0_addTurns_43 ?_
        try dsimp only
        try simp (disch := omega) only [p3_f, p3_q, p3_o, u2_p3_o, pr_at, pr_off, u2_pr, hat, uz_same, uz_ne, Nat.reduceAdd]
        refine ⟨sc0, _, hRC.2, ?_⟩
        refine ⟨⟨rfl, rfl⟩, ?_⟩
        refine ⟨_, sc5, ⟨by omega, by omega⟩, ?_⟩
        try simp (disch := omega) only [p3_f, p3_q, p3_o, u2_p3_o, pr_at, pr_off, u2_pr, hat, uz_same, uz_ne, Nat.reduceAdd]
        refine ⟨fun c55_3 => ?_, fun c55_3 => ?_⟩
        · refine B_X0_addTurns_63 ?_
          try dsimp only
          try simp (disch := omega) only [p3_f, p3_q, p3_o, u2_p3_o, pr_at, pr_off, u2_pr, hat, uz_same, uz_ne, Nat.reduceAdd]
          refine B_X0_addTurns_65 ?_
          try dsimp only
          try simp (disch := omega) only [p3_f, p3_q, p3_o, u2_p3_o, pr_at, pr_off, u2_pr, hat, uz_same, uz_ne, Nat.reduceAdd]
          refine ⟨by (refine ⟨?_, ?_⟩ <;> omega), ?_⟩
          refine ⟨_, (by first | exact sc5 | exact sp1 hP1), ⟨by omega, by omega⟩, ?_⟩
          try simp (disch := omega) only [p3_f, p3_q, p3_o, u2_p3_o, pr_at, pr_off, u2_pr, hat, uz_same, uz_ne, Nat.reduceAdd]
          refine ⟨by (refine ⟨?_, ?_⟩ <;> omega), ?_⟩
          have e := fun l4 : Option amV => ih (j + 1) l4 (by omega)
          rw [show (j + 1).toNat = j.toNat + 1 by omega, hs] at e
          have ej : ((j.toNat : Nat) : Int) = j := by omega
          rw [ej] at e
          unfold tmC at e
          first
            | (exfalso; omega)
            | (rw [if_pos (by omega)] at e; exact e _)
            | (rw [if_neg (by omega), if_pos (by omega)] at e; exact e _)
            | (rw [if_neg (by omega), if_neg (by omega)] at e
               have er : r2 = (dS z j v + 2) / 3 := by omega
               rw [er]
               exact e _)
        · refine B_X0_addTurns_65 ?_
          try dsimp only
          try simp (disch := omega) only [p3_f, p3_q, p3_o, u2_p3_o, pr_at, pr_off, u2_pr, hat, uz_same, uz_ne, Nat.reduceAdd]
          refine ⟨by (refine ⟨?_, ?_⟩ <;> omega), ?_⟩
          refine ⟨_, (by first | exact sc5 | exact sp1 hP1), ⟨by omega, by omega⟩, ?_⟩
          try simp (disch := omega) only [p3_f, p3_q, p3_o, u2_p3_o, pr_at, pr_off, u2_pr, hat, uz_same, uz_ne, Nat.reduceAdd]
          refine ⟨by (refine ⟨?_, ?_⟩ <;> omega), ?_⟩
          have e := fun l4 : Option amV => ih (j + 1) l4 (by omega)
          rw [show (j + 1).toNat = j.toNat + 1 by omega, hs] at e
          have ej : ((j.toNat : Nat) : Int) = j := by omega
          rw [ej] at e
          unfold tmC at e
          first
            | (exfalso; omega)
            | (rw [if_pos (by omega)] at e; exact e _)
            | (rw [if_neg (by omega), if_pos (by omega)] at e; exact e _)
            | (rw [if_neg (by omega), if_neg (by omega)] at e
               have er : r2 = (dS z j v + 2) / 3 := by omega
               rw [er]
               exact e _)
      · refine B_X0_addTurns_43 ?_
        try dsimp only
        try simp (disch := omega) only [p3_f, p3_q, p3_o, u2_p3_o, pr_at, pr_off, u2_pr, hat, uz_same, uz_ne, Nat.reduceAdd]
        refine ⟨sc0, _, hRC.2, ?_⟩
        refine ⟨⟨rfl, rfl⟩, ?_⟩
        refine ⟨_, sc5, ⟨by omega, by omega⟩, ?_⟩
        try simp (disch := omega) only [p3_f, p3_q, p3_o, u2_p3_o, pr_at, pr_off, u2_pr, hat, uz_same, uz_ne, Nat.reduceAdd]
        refine ⟨fun c55_2 => ?_, fun c55_2 => ?_⟩
        · refine B_X0_addTurns_63 ?_
          try dsimp only
          try simp (disch := omega) only [p3_f, p3_q, p3_o, u2_p3_o, pr_at, pr_off, u2_pr, hat, uz_same, uz_ne, Nat.reduceAdd]
          refine B_X0_addTurns_65 ?_
          try dsimp only
          try simp (disch := omega) only [p3_f, p3_q, p3_o, u2_p3_o, pr_at, pr_off, u2_pr, hat, uz_same, uz_ne, Nat.reduceAdd]
          refine ⟨by (refine ⟨?_, ?_⟩ <;> omega), ?_⟩
          refine ⟨_, (by first | exact sc5 | exact sp1 hP1), ⟨by omega, by omega⟩, ?_⟩
          try simp (disch := omega) only [p3_f, p3_q, p3_o, u2_p3_o, pr_at, pr_off, u2_pr, hat, uz_same, uz_ne, Nat.reduceAdd]
          refine ⟨by (refine ⟨?_, ?_⟩ <;> omega), ?_⟩
          have e := fun l4 : Option amV => ih (j + 1) l4 (by omega)
          rw [show (j + 1).toNat = j.toNat + 1 by omega, hs] at e
          have ej : ((j.toNat : Nat) : Int) = j := by omega
          rw [ej] at e
          unfold tmC at e
          first
            | (exfalso; omega)
            | (rw [if_pos (by omega)] at e; exact e _)
            | (rw [if_neg (by omega), if_pos (by omega)] at e; exact e _)
            | (rw [if_neg (by omega), if_neg (by omega)] at e
               have er : r2 = (dS z j v + 2) / 3 := by omega
               rw [er]
               exact e _)
        · refine B_X0_addTurns_65 ?_
          try dsimp only
          try simp (disch := omega) only [p3_f, p3_q, p3_o, u2_p3_o, pr_at, pr_off, u2_pr, hat, uz_same, uz_ne, Nat.reduceAdd]
          refine ⟨by (refine ⟨?_, ?_⟩ <;> omega), ?_⟩
          refine ⟨_, (by first | exact sc5 | exact sp1 hP1), ⟨by omega, by omega⟩, ?_⟩
          try simp (disch := omega) only [p3_f, p3_q, p3_o, u2_p3_o, pr_at, pr_off, u2_pr, hat, uz_same, uz_ne, Nat.reduceAdd]
          refine ⟨by (refine ⟨?_, ?_⟩ <;> omega), ?_⟩
          have e := fun l4 : Option amV => ih (j + 1) l4 (by omega)
          rw [show (j + 1).toNat = j.toNat + 1 by omega, hs] at e
          have ej : ((j.toNat : Nat) : Int) = j := by omega
          rw [ej] at e
          unfold tmC at e
          first
            | (exfalso; omega)
            | (rw [if_pos (by omega)] at e; exact e _)
            | (rw [if_neg (by omega), if_pos (by omega)] at e; exact e _)
            | (rw [if_neg (by omega), if_neg (by omega)] at e
               have er : r2 = (dS z j v + 2) / 3 := by omega
               rw [er]
               exact e _)
theorem D_addTurns {G : amG} {I : Nat → Nat → Int} {R : Nat → Nat → Option Nat} {L : Nat → Nat → Int64} {x c t : Nat} {Q : amR → amH → Prop} (hG : amG0 G) {b : Nat} (hB : wb b) (hRW : RW R b) {f q s : Row} (hRC : RC R) (hRP : RP R 351) (htk : ∀ t : Nat, t < 96 → I 354 t = 0) {z : Row} (hv : HV I b z) (hh : wfH z) {v : Int} (hc : isC v) (hs0 : ∀ j : Nat, j < 96 → 0 ≤ s j ∧ s j ≤ 1000) (hQ : ∀ f q : Row, Q (Sum.inl none) (p3 (pr I 355 (adN s z v 96)) 351 f q, R, L, SH, x, 0, 0)) : CT G sX0_addTurns [aR (some 350), aR (some (b + 1)), aI v] (p3 (pr I 355 s) 351 f q, R, L, SH, x, c, t) Q := by
  refine CT_of ok_X0_addTurns hG (Nat.le_of_ble_eq_true rfl) ?_
  show X G mX0_addTurns Q 0 _ [] (p3 (pr I 355 s) 351 f q, R, L, SH, x, 0, 0)
  have hb1 := wb_le hB
  have hv' : HV (pr I 355 s) b z := fun i hi => by
    rw [pr_off _ _ (by omega)]
    exact hv i hi
  refine B_X0_addTurns_0 ?_
  try dsimp only
  refine ⟨sc0, _, hRC.1, ?_⟩
  refine ⟨⟨Nat.zero_le _, Nat.zero_le _, Nat.le_of_ble_eq_true rfl⟩, sp0 hP1, ?_⟩
  refine D_spread hG hB hRW hP1 hRP hv' hh hc (Or.inl rfl) (fun f2 q2 _ hd => ?_)
  have hd := hd rfl
  have hd : dSp z (opT (I 354)) v f2 := hd
  have hd := dSp_op (opT_all htk) hd
  refine af_N0 rfl rfl rfl ?_
  try dsimp only
  refine B_X0_addTurns_10 ?_
  try dsimp only
  exact L_addTurns hG hB hRW hRC hRP htk hv hh hc (fun t ht => dSp_uniq hd (dF_sp hc) ht) hs0 (hQ f2 q2) 97 0 none (by omega)
