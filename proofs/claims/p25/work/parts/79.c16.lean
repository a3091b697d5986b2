variable {sT : List (Nat × Nat)}
theorem pr_p3 (I : Nat → Nat → Int) (p : Nat) (f q r : Row) {a : Nat} (h : a ≠ p + 1 ∧ a ≠ p + 2) : pr (p3 I p f q) a r = p3 (pr I a r) p f q := funext (fun c => by
  by_cases e : c = a
  · rw [e, pr_at, p3_o _ _ _ _ h, pr_at]
  · rw [pr_off _ _ e]
    unfold p3
    rw [pr_off _ _ e])
theorem WV_pr {I : Nat → Nat → Int} {b a : Nat} {z : Row} (h : WV I b z) (hn : z 98 ≤ 12) (r : Row) (ha : a < b ∨ b + 49 ≤ a) : WV (pr I a r) b z := WV_off h hn (fun c h1 h2 => pr_off _ _ (by omega))
/-! ===== the class: troops march ===== -/
theorem sa0 : (SH sT)[356]? = some (2, 0) := SH_at (by decide +kernel)
/-- a war's own numbers and the marshal's ways have changed -/
def FM (I J : Nat → Nat → Int) (b : Nat) : Prop := ∀ c : Nat, c < b ∨ b + 19 ≤ c → c ≠ 358 → c ≠ 359 → c ≠ 360 → J c = I c
theorem FM_refl (I : Nat → Nat → Int) (b : Nat) : FM I I b := fun _ _ _ _ _ => rfl
theorem FM_of {I J : Nat → Nat → Int} {b : Nat} (h : FO I J b) : FM I J b := fun c hc _ _ _ => h c hc
theorem FM_trans {I J K : Nat → Nat → Int} {b : Nat} (h : FM I J b) (h2 : FM J K b) : FM I K b := fun c hc a1 a2 a3 => by rw [h2 c hc a1 a2 a3, h c hc a1 a2 a3]
theorem FM_oc {I J : Nat → Nat → Int} {b : Nat} (h : FM I J b) (hb : b ≤ 297) (n : Nat) (hn : n ≤ 30) : oc J b n = oc I b n := oc_congr (fun k hk => by
  unfold odC
  rw [h _ (by omega) (by omega) (by omega) (by omega)])
theorem nb_ne {c w : Int} (hc : isC c) (hw : 0 ≤ w ∧ w < 4) : nb c w ≠ c := by
  unfold isC at hc
  unfold nb
  repeat' split
  all_goals omega
theorem stT_ne {z : Row} {c w : Int} (hc : isC c) (hw : 0 ≤ w ∧ w < 4) : stT z c w ≠ c := by
  unfold stT
  split
  · exact nb_ne hc hw
  · unfold isC at hc; omega
/-- where others stand -/
def tkP (z : Row) (k : Nat) (j : Nat) (tk : Row) : Prop := ∀ c : Nat, c < 96 → (tk c = 0 ↔ ∀ l : Nat, l < j → l ≠ k → tf z l 4 ≠ 2 → tf z l 1 ≠ c)
theorem tkP_at {z : Row} {k : Nat} {tk : Row} (hu : wfU z) (hn : 0 ≤ z 98) (hk : (k : Int) < z 98) (h : tkP z k (z 98).toNat tk) {t : Int} (ht : isC t) : tk t.toNat = 0 ↔ (tAt z t = -1 ∨ tAt z t = k) := by
  unfold isC at ht
  rw [h t.toNat (by omega), show ((t.toNat : Nat) : Int) = t by omega]
  constructor
  · intro hl
    rcases Decidable.em (tAt z t = -1) with q | q
    · exact Or.inl q
    · obtain ⟨l, l1, l2, l3, l4⟩ := tA_some q
      rcases Decidable.em (l = k) with e | e
      · exact Or.inr (by rw [← e]; exact l2)
      · exact absurd l4 (hl l l1 e l3)
  · intro h l l1 l2 l3 l4
    rcases h with h | h
    · exact tA_none.mp h l l1 ⟨l3, l4⟩
    · have e := tA_uniq hu (n := (z 98).toNat) (by omega) l1 l3 l4
      have h : tA z t (z 98).toNat = k := h
      omega
theorem opT_opM {z : Row} {k : Nat} {tk : Row} (hu : wfU z) (hn : 0 ≤ z 98) (hk : (k : Int) < z 98) (h : tkP z k (z 98).toNat tk) (t : Int) (ht : isC t) : opT tk t = opM z k t := by
  unfold opT opM
  refine decide_eq_decide.mpr ?_
  rw [tkP_at hu hn hk h ht]
  exact ⟨fun w => Or.inr w, fun w => w.resolve_left (by omega)⟩
theorem nxN_s (z f : Row) (c : Int) (n : Nat) : nxN z f c (n + 1) = if stT z c (3 - n) ≠ -1 ∧ f (stT z c (3 - n)).toNat ≠ -1 ∧ f (stT z c (3 - n)).toNat = f c.toNat - 1 ∧ tAt z (stT z c (3 - n)) = -1 then stT z c (3 - n) else nxN z f c n := rfl
theorem nxC_nxN {z f g tk : Row} {c : Int} (hc : isC c) (hfc : f c.toNat = g c.toNat) (hft : ∀ t : Int, isC t → f t.toNat = g t.toNat ∨ (f t.toNat = -1 ∧ (g t.toNat = -1 ∨ g c.toNat ≤ g t.toNat))) (hg : ∀ t : Int, isC t → -1 ≤ g t.toNat) (htk : ∀ t : Int, isC t → t ≠ c → (tk t.toNat = 0 ↔ tAt z t = -1)) : ∀ n : Nat, n ≤ 4 → nxC z f tk c n = nxN z g c n := by
  intro n
  induction n with
  | zero => intro _; rfl
  | succ n ih =>
    intro hn
    rw [nxC_s, nxN_s, ih (by omega)]
    have hw : 0 ≤ (3 : Int) - n ∧ (3 : Int) - n < 4 := by omega
    have hne := stT_ne (z := z) hc hw
    rcases stT_cell (z := z) hc hw with q | q
    · rw [if_neg (fun w => w.1 q), if_neg (fun w => w.1 q)]
    · have h1 := hft _ q.1
      have h2 := hg _ q.1
      have h3 := htk _ q.1 hne
      have hn1 : stT z c (3 - n) ≠ -1 := by have := q.1; unfold isC at this; omega
      generalize stT z c (3 - n) = t at *
      by_cases y : 0 < f c.toNat ∧ f t.toNat = f c.toNat - 1 ∧ tk t.toNat = 0
      · rw [if_pos ⟨hn1, y⟩, if_pos ⟨hn1, by omega, by omega, h3.mp y.2.2⟩]
      · rw [if_neg (fun w => y w.2), if_neg (fun w => y ⟨by omega, by omega, h3.mpr w.2.2.2⟩)]
theorem marchZ_id {z : Row} {k : Nat} (h1 : tf z k 4 ≠ 1) (h2 : tf z k 4 = 2 ∨ tf z k 1 = tf z k 3) : marchZ z k = z := by
  unfold marchZ mvC
  rw [if_neg h1, if_pos h2]
  exact uz_self _ _
theorem L_taken {G : amG} {I : Nat → Nat → Int} {R : Nat → Nat → Option Nat} {L : Nat → Nat → Int64} {x : Nat} {Q : amR → amH → Prop} (hG : amG0 G) {b : Nat} (hB : wb b) (hRW : RW R b) {z : Row} (hW : WV I b z) (hb : wfB z) {k : Int} (hk : 0 ≤ k ∧ k < z 98) (hRA : R 356 0 = some 357) (hRP : RP R 357) (hK : ∀ tk : Row, tkP z k.toNat (z 98).toNat tk → X G mX2_stepToGoal Q 71 [some (aR (some 356)), some (aR (some b)), some (aI k), some (aR (some (b + 7 + k.toNat))), some (aI (z 98))] [] (pr I 360 tk, R, L, (SH sT), x, 0, 0)) :
    ∀ (n : Nat) (j : Int) (tk : Row), (0 ≤ j ∧ j ≤ z 98 ∧ z 98 - j < n) → tkP z k.toNat j.toNat tk → X G mX2_stepToGoal Q 17 [some (aR (some 356)), some (aR (some b)), some (aI k), some (aR (some (b + 7 + k.toNat))), some (aI j)] [] (pr I 360 tk, R, L, (SH sT), x, 0, 0) := by
  intro n
  induction n with
  | zero =>
    intros
    exfalso; omega
  | succ n ih =>
    intro j tk h1 ht
    have hn1 := hb.2.1.1
    have hn2 := hb.2.1.2
    have hb1 := wb_le hB
    have hT := hb.2.2.1 k.toNat (by omega)
    have hT' := hT
    unfold wfT1 at hT'
    have hc1 : isC (tf z k.toNat 1) := by unfold isC; omega
    refine B_X2_stepToGoal_17 ?_
    try dsimp only
    try simp (disch := omega) only [p3_f, p3_q, p3_o, u2_p3_o, pr_at, pr_off, u2_pr, wN hW, wO hW, wTu hW, wGi hW, wMi hW, wL0 hW, wL1 hW, wG0 hW, wG1 hW, wT hW, wH hW, Nat.reduceAdd]
    refine ⟨sw0 hB, ?_⟩
    try simp (disch := omega) only [p3_f, p3_q, p3_o, u2_p3_o, pr_at, pr_off, u2_pr, wN hW, wO hW, wTu hW, wGi hW, wMi hW, wL0 hW, wL1 hW, wG0 hW, wG1 hW, wT hW, wH hW, Nat.reduceAdd]
    refine ⟨fun c23_0 => ?_, fun c23_0 => ?_⟩
    · have e : j = z 98 := by omega
      rw [e] at ht ⊢
      exact hK tk ht
    · refine ⟨fun c29_0 => ?_, fun c29_0 => ?_⟩
      · refine B_X2_stepToGoal_65 ?_
        try dsimp only
        try simp (disch := omega) only [p3_f, p3_q, p3_o, u2_p3_o, pr_at, pr_off, u2_pr, wN hW, wO hW, wTu hW, wGi hW, wMi hW, wL0 hW, wL1 hW, wG0 hW, wG1 hW, wT hW, wH hW, Nat.reduceAdd]
        refine ⟨by (refine ⟨?_, ?_⟩ <;> omega), ?_⟩
        refine ih (j + 1) _ (by omega) (fun c hc => ?_)
        rw [show (j + 1).toNat = j.toNat + 1 by omega]
        first
          | (rw [ht c hc]
             refine ⟨fun w l l1 l2 l3 => ?_, fun w l l1 l2 l3 => w l (by omega) l2 l3⟩
             rcases (by omega : l < j.toNat ∨ l = j.toNat) with u | u
             · exact w l u l2 l3
             · exfalso
               first
                 | (exact l2 (by omega))
                 | (rw [u] at l3; omega))
          | (by_cases e : c = (tf z j.toNat 1).toNat
             · rw [e, uz_same]
               refine ⟨fun w => absurd w (by decide), fun w => absurd ?_ (w j.toNat (by omega) (by omega) (by omega))⟩
               omega
             · rw [uz_ne _ _ e, ht c hc]
               refine ⟨fun w l l1 l2 l3 => ?_, fun w l l1 l2 l3 => w l (by omega) l2 l3⟩
               rcases (by omega : l < j.toNat ∨ l = j.toNat) with u | u
               · exact w l u l2 l3
               · rw [u]; omega)
      · refine ⟨sw0 hB, _, hRW.tr, ?_⟩
        refine ⟨_, _, sw4 hB, ⟨by decide, by decide⟩, ⟨by omega, by omega⟩, _, hRW.t (by omega), ?_⟩
        refine ⟨swT hB (by omega), ?_⟩
        try simp (disch := omega) only [p3_f, p3_q, p3_o, u2_p3_o, pr_at, pr_off, u2_pr, wN hW, wO hW, wTu hW, wGi hW, wMi hW, wL0 hW, wL1 hW, wG0 hW, wG1 hW, wT hW, wH hW, Nat.reduceAdd]
        refine ⟨fun c43_0 => ?_, fun c43_0 => ?_⟩
        · refine B_X2_stepToGoal_65 ?_
          try dsimp only
          try simp (disch := omega) only [p3_f, p3_q, p3_o, u2_p3_o, pr_at, pr_off, u2_pr, wN hW, wO hW, wTu hW, wGi hW, wMi hW, wL0 hW, wL1 hW, wG0 hW, wG1 hW, wT hW, wH hW, Nat.reduceAdd]
          refine ⟨by (refine ⟨?_, ?_⟩ <;> omega), ?_⟩
          refine ih (j + 1) _ (by omega) (fun c hc => ?_)
          rw [show (j + 1).toNat = j.toNat + 1 by omega]
          first
            | (rw [ht c hc]
               refine ⟨fun w l l1 l2 l3 => ?_, fun w l l1 l2 l3 => w l (by omega) l2 l3⟩
               rcases (by omega : l < j.toNat ∨ l = j.toNat) with u | u
               · exact w l u l2 l3
               · exfalso
                 first
                   | (exact l2 (by omega))
                   | (rw [u] at l3; omega))
            | (by_cases e : c = (tf z j.toNat 1).toNat
               · rw [e, uz_same]
                 refine ⟨fun w => absurd w (by decide), fun w => absurd ?_ (w j.toNat (by omega) (by omega) (by omega))⟩
                 omega
               · rw [uz_ne _ _ e, ht c hc]
                 refine ⟨fun w l l1 l2 l3 => ?_, fun w l l1 l2 l3 => w l (by omega) l2 l3⟩
                 rcases (by omega : l < j.toNat ∨ l = j.toNat) with u | u
                 · exact w l u l2 l3
                 · rw [u]; omega)
        · have hTj := hb.2.2.1 j.toNat (by omega)
          unfold wfT1 at hTj
          refine ⟨sa0, _, hRA, ?_⟩
          refine ⟨sp0 hP2, _, hRP.ta, ?_⟩
          refine ⟨sw0 hB, _, hRW.tr, ?_⟩
          refine ⟨_, _, sw4 hB, ⟨by decide, by decide⟩, ⟨by omega, by omega⟩, _, hRW.t (by omega), ?_⟩
          refine ⟨swT hB (by omega), ?_⟩
          try simp (disch := omega) only [p3_f, p3_q, p3_o, u2_p3_o, pr_at, pr_off, u2_pr, wN hW, wO hW, wTu hW, wGi hW, wMi hW, wL0 hW, wL1 hW, wG0 hW, wG1 hW, wT hW, wH hW, Nat.reduceAdd]
          refine ⟨_, sp3 hP2, ⟨by omega, by omega⟩, ?_⟩
          try simp (disch := omega) only [p3_f, p3_q, p3_o, u2_p3_o, pr_at, pr_off, u2_pr, wN hW, wO hW, wTu hW, wGi hW, wMi hW, wL0 hW, wL1 hW, wG0 hW, wG1 hW, wT hW, wH hW, Nat.reduceAdd]
          refine B_X2_stepToGoal_65 ?_
          try dsimp only
          try simp (disch := omega) only [p3_f, p3_q, p3_o, u2_p3_o, pr_at, pr_off, u2_pr, wN hW, wO hW, wTu hW, wGi hW, wMi hW, wL0 hW, wL1 hW, wG0 hW, wG1 hW, wT hW, wH hW, Nat.reduceAdd]
          refine ⟨by (refine ⟨?_, ?_⟩ <;> omega), ?_⟩
          refine ih (j + 1) _ (by omega) (fun c hc => ?_)
          rw [show (j + 1).toNat = j.toNat + 1 by omega]
          first
            | (rw [ht c hc]
               refine ⟨fun w l l1 l2 l3 => ?_, fun w l l1 l2 l3 => w l (by omega) l2 l3⟩
               rcases (by omega : l < j.toNat ∨ l = j.toNat) with u | u
               · exact w l u l2 l3
               · exfalso
                 first
                   | (exact l2 (by omega))
                   | (rw [u] at l3; omega))
            | (by_cases e : c = (tf z j.toNat 1).toNat
               · rw [e, uz_same]
                 refine ⟨fun w => absurd w (by decide), fun w => absurd ?_ (w j.toNat (by omega) (by omega) (by omega))⟩
                 omega
               · rw [uz_ne _ _ e, ht c hc]
                 refine ⟨fun w l l1 l2 l3 => ?_, fun w l l1 l2 l3 => w l (by omega) l2 l3⟩
                 rcases (by omega : l < j.toNat ∨ l = j.toNat) with u | u
                 · exact w l u l2 l3
                 · rw [u]; omega)
theorem D_stepToGoal {G : amG} {I : Nat → Nat → Int} {R : Nat → Nat → Option Nat} {L : Nat → Nat → Int64} {x c t : Nat} {Q : amR → amH → Prop} (hG : amG0 G) {b : Nat} (hB : wb b) (hRW : RW R b) {z : Row} (hW : WV I b z) (hb : wfB z) {k : Int} (hk : 0 ≤ k ∧ k < z 98) (hRA : R 356 0 = some 357) (hRP : RP R 357) (hst : tf z k.toNat 4 = 0) (hcg : tf z k.toNat 1 ≠ tf z k.toNat 3) (hQ : ∀ J : Nat → Nat → Int, FM I J b → WV J b (marchZ z k.toNat) → Q (Sum.inl none) (J, R, L, (SH sT), x, 0, 0)) : CT G sX2_stepToGoal [aR (some 356), aR (some b), aI k] (I, R, L, (SH sT), x, c, t) Q := by
  refine CT_of ok_X2_stepToGoal hG (Nat.le_of_ble_eq_true rfl) ?_
  show X G mX2_stepToGoal Q 0 _ [] (I, R, L, (SH sT), x, 0, 0)
  have hn1 := hb.2.1.1
  have hn2 := hb.2.1.2
  have hb1 := wb_le hB
  have hT := hb.2.2.1 k.toNat (by omega)
  have hT' := hT
  unfold wfT1 at hT'
  have hc1 : isC (tf z k.toNat 1) := by unfold isC; omega
  have hc1' : 0 ≤ tf z k.toNat 1 ∧ tf z k.toNat 1 < 96 := hc1
  have hc3 : isC (tf z k.toNat 3) := by unfold isC; omega
  refine B_X2_stepToGoal_0 ?_
  try dsimp only
  try simp (disch := omega) only [p3_f, p3_q, p3_o, u2_p3_o, pr_at, pr_off, u2_pr, wN hW, wO hW, wTu hW, wGi hW, wMi hW, wL0 hW, wL1 hW, wG0 hW, wG1 hW, wT hW, wH hW, Nat.reduceAdd]
  refine ⟨sw0 hB, _, hRW.tr, ?_⟩
  refine ⟨_, _, sw4 hB, ⟨by decide, by decide⟩, ⟨by omega, by omega⟩, _, hRW.t (by omega), ?_⟩
  refine ⟨sa0, _, hRA, ?_⟩
  refine ⟨⟨Nat.zero_le _, Nat.zero_le _, Nat.le_of_ble_eq_true rfl⟩, sp0 hP2, ?_⟩
  refine D_openAll hG hP2 hRP ?_
  refine af_N0 rfl rfl rfl ?_
  try dsimp only
  try simp (disch := omega) only [p3_f, p3_q, p3_o, u2_p3_o, pr_at, pr_off, u2_pr, wN hW, wO hW, wTu hW, wGi hW, wMi hW, wL0 hW, wL1 hW, wG0 hW, wG1 hW, wT hW, wH hW, Nat.reduceAdd]
  refine B_X2_stepToGoal_14 ?_
  try dsimp only
  try simp (disch := omega) only [p3_f, p3_q, p3_o, u2_p3_o, pr_at, pr_off, u2_pr, wN hW, wO hW, wTu hW, wGi hW, wMi hW, wL0 hW, wL1 hW, wG0 hW, wG1 hW, wT hW, wH hW, Nat.reduceAdd]
  refine L_taken hG hB hRW hW hb hk hRA hRP (fun tk htk => ?_) 13 0 _ (by omega) (fun c hc => ?_)
  · have hWp := WV_pr hW hn2 tk (a := 360) (Or.inr (by omega))
    refine B_X2_stepToGoal_71 ?_
    try dsimp only
    try simp (disch := omega) only [p3_f, p3_q, p3_o, u2_p3_o, pr_at, pr_off, u2_pr, wN hW, wO hW, wTu hW, wGi hW, wMi hW, wL0 hW, wL1 hW, wG0 hW, wG1 hW, wT hW, wH hW, Nat.reduceAdd]
    refine ⟨sa0, _, hRA, ?_⟩
    refine ⟨sw0 hB, _, hRW.te, ?_⟩
    refine ⟨swT hB (by omega), ?_⟩
    try simp (disch := omega) only [p3_f, p3_q, p3_o, u2_p3_o, pr_at, pr_off, u2_pr, wN hW, wO hW, wTu hW, wGi hW, wMi hW, wL0 hW, wL1 hW, wG0 hW, wG1 hW, wT hW, wH hW, Nat.reduceAdd]
    refine ⟨swT hB (by omega), ?_⟩
    try simp (disch := omega) only [p3_f, p3_q, p3_o, u2_p3_o, pr_at, pr_off, u2_pr, wN hW, wO hW, wTu hW, wGi hW, wMi hW, wL0 hW, wL1 hW, wG0 hW, wG1 hW, wT hW, wH hW, Nat.reduceAdd]
    refine ⟨⟨Nat.zero_le _, Nat.zero_le _, Nat.le_of_ble_eq_true rfl⟩, sp0 hP2, ?_⟩
    rw [← p3_self (pr I 360 tk) 357]
    refine D_spread hG hB hRW hP2 hRP (wH hWp) hb.1 hc3 (Or.inr hc1) (fun f2 q2 hes _ => ?_)
    have hes : esp z (opT tk) (tf z k.toNat 3) (tf z k.toNat 1) f2 := hes
    have hesp : ∀ g : Row, dSp z (opT tk) (tf z k.toNat 3) g → f2 (tf z k.toNat 1).toNat = g (tf z k.toNat 1).toNat ∧ ∀ t : Int, isC t → f2 t.toNat = g t.toNat ∨ (f2 t.toNat = -1 ∧ (g t.toNat = -1 ∨ g (tf z k.toNat 1).toNat ≤ g t.toNat)) := fun g hg => ⟨esp_at hes hg hc1, fun t ht => by
      rcases hes with y | ⟨_, _, y⟩
      · exact Or.inl (dSp_uniq y hg ht)
      · exact y g hg t ht⟩
    have hfb : ∀ t : Int, isC t → -1 ≤ f2 t.toNat ∧ f2 t.toNat < 96 := fun t ht => by
      have h1 := (hesp _ (dF_sp hc3)).2 t ht
      have h2 := dF_b (z := z) (op := opT tk) hc3 ht
      omega
    refine af_N0 rfl rfl rfl ?_
    try dsimp only
    try simp (disch := omega) only [p3_f, p3_q, p3_o, u2_p3_o, pr_at, pr_off, u2_pr, wN hW, wO hW, wTu hW, wGi hW, wMi hW, wL0 hW, wL1 hW, wG0 hW, wG1 hW, wT hW, wH hW, Nat.reduceAdd]
    refine B_X2_stepToGoal_90 ?_
    try dsimp only
    try simp (disch := omega) only [p3_f, p3_q, p3_o, u2_p3_o, pr_at, pr_off, u2_pr, wN hW, wO hW, wTu hW, wGi hW, wMi hW, wL0 hW, wL1 hW, wG0 hW, wG1 hW, wT hW, wH hW, Nat.reduceAdd]
    refine ⟨sa0, _, hRA, ?_⟩
    refine ⟨sw0 hB, _, hRW.te, ?_⟩
    refine ⟨swT hB (by omega), ?_⟩
    try simp (disch := omega) only [p3_f, p3_q, p3_o, u2_p3_o, pr_at, pr_off, u2_pr, wN hW, wO hW, wTu hW, wGi hW, wMi hW, wL0 hW, wL1 hW, wG0 hW, wG1 hW, wT hW, wH hW, Nat.reduceAdd]
    refine ⟨⟨Nat.zero_le _, Nat.zero_le _, Nat.le_of_ble_eq_true rfl⟩, sp0 hP2, ?_⟩
    refine D_freeStepNearer hG hB hRW hP2 hRP (wH hWp) hb.1 hc1 hfb ?_
    have hge : dSp z (opM z k.toNat) (tf z k.toNat 3) (dF z (opM z k.toNat) (tf z k.toNat 3)) := dF_sp hc3
    have he2 := hesp _ (dSp_op (fun t ht => (opT_opM hb.2.2.2.1 hn1 (by omega) htk t ht).symm) hge)
    have hnn : nxC z f2 tk (tf z k.toNat 1) 4 = nxN z (dF z (opM z k.toNat) (tf z k.toNat 3)) (tf z k.toNat 1) 4 := by
      refine nxC_nxN hc1 he2.1 he2.2 (fun t ht => (dF_b hc3 ht).1) (fun t ht hne => ?_) 4 (by decide)
      rw [tkP_at hb.2.2.2.1 hn1 (by omega) htk ht]
      refine ⟨fun w => w.resolve_right (fun y => ?_), fun w => Or.inl w⟩
      obtain ⟨l, l1, l2, l3, l4⟩ := tA_some (z := z) (c := t) (n := (z 98).toNat) (by have y : tA z t (z 98).toNat = _ := y; omega)
      have y : tA z t (z 98).toNat = (k.toNat : Nat) := y
      have el : l = k.toNat := by omega
      rw [el] at l4
      exact hne l4.symm
    have hpt : (pr I 360 tk) (357 + 3) = tk := pr_at I 360 tk
    rw [hpt, hnn]
    refine af_I0 rfl rfl (by decide) ?_
    try dsimp only
    try simp (disch := omega) only [p3_f, p3_q, p3_o, u2_p3_o, pr_at, pr_off, u2_pr, wN hW, wO hW, wTu hW, wGi hW, wMi hW, wL0 hW, wL1 hW, wG0 hW, wG1 hW, wT hW, wH hW, Nat.reduceAdd]
    refine B_X2_stepToGoal_105 ?_
    try dsimp only
    try simp (disch := omega) only [p3_f, p3_q, p3_o, u2_p3_o, pr_at, pr_off, u2_pr, wN hW, wO hW, wTu hW, wGi hW, wMi hW, wL0 hW, wL1 hW, wG0 hW, wG1 hW, wT hW, wH hW, Nat.reduceAdd]
    refine ⟨fun c110_2 => ?_, fun c110_2 => ?_⟩
    · refine B_X2_stepToGoal_119 ?_
      try dsimp only
      try simp (disch := omega) only [p3_f, p3_q, p3_o, u2_p3_o, pr_at, pr_off, u2_pr, wN hW, wO hW, wTu hW, wGi hW, wMi hW, wL0 hW, wL1 hW, wG0 hW, wG1 hW, wT hW, wH hW, Nat.reduceAdd]
      refine ⟨rfl, ?_⟩
      first
        | (have e : marchZ z k.toNat = z := by
             unfold marchZ mvC
             rw [if_neg (by omega), if_neg (by omega), if_pos (by assumption)]
             exact uz_self _ _
           refine hQ _ (fun c h1 h2 h3 h4 => ?_) ?_
           · rw [p3_o _ _ _ _ (by omega), pr_off _ _ (by omega)]
           · rw [e]
             exact WV_p3 hWp hn2 hB hP2 _ _)
        | (have e : marchZ z k.toNat = uz z (99 + 8 * k.toNat + 1) (nxN z (dF z (opM z k.toNat) (tf z k.toNat 3)) (tf z k.toNat 1) 4) := by
             unfold marchZ mvC
             rw [if_neg (by omega), if_neg (by omega), if_neg (by assumption)]
           refine hQ _ (fun c h1 h2 h3 h4 => ?_) ?_
           · try rw [u2_off _ _ _ (by omega)]
             rw [p3_o _ _ _ _ (by omega)]
             try rw [u2_off _ _ _ (by omega)]
             rw [pr_off _ _ (by omega)]
           · rw [e]
             first
               | exact WV_t (WV_p3 hWp hn2 hB hP2 _ _) hn2 _ (by omega) (by decide)
               | exact WV_p3 (WV_t hWp hn2 _ (by omega) (by decide)) (by rw [uz_ne _ _ (by omega)]; exact hn2) hB hP2 _ _)
    · refine ⟨swT hB (by omega), ?_⟩
      try simp (disch := omega) only [p3_f, p3_q, p3_o, u2_p3_o, pr_at, pr_off, u2_pr, wN hW, wO hW, wTu hW, wGi hW, wMi hW, wL0 hW, wL1 hW, wG0 hW, wG1 hW, wT hW, wH hW, Nat.reduceAdd]
      refine B_X2_stepToGoal_119 ?_
      try dsimp only
      try simp (disch := omega) only [p3_f, p3_q, p3_o, u2_p3_o, pr_at, pr_off, u2_pr, wN hW, wO hW, wTu hW, wGi hW, wMi hW, wL0 hW, wL1 hW, wG0 hW, wG1 hW, wT hW, wH hW, Nat.reduceAdd]
      refine ⟨rfl, ?_⟩
      first
        | (have e : marchZ z k.toNat = z := by
             unfold marchZ mvC
             rw [if_neg (by omega), if_neg (by omega), if_pos (by assumption)]
             exact uz_self _ _
           refine hQ _ (fun c h1 h2 h3 h4 => ?_) ?_
           · rw [p3_o _ _ _ _ (by omega), pr_off _ _ (by omega)]
           · rw [e]
             exact WV_p3 hWp hn2 hB hP2 _ _)
        | (have e : marchZ z k.toNat = uz z (99 + 8 * k.toNat + 1) (nxN z (dF z (opM z k.toNat) (tf z k.toNat 3)) (tf z k.toNat 1) 4) := by
             unfold marchZ mvC
             rw [if_neg (by omega), if_neg (by omega), if_neg (by assumption)]
           refine hQ _ (fun c h1 h2 h3 h4 => ?_) ?_
           · try rw [u2_off _ _ _ (by omega)]
             rw [p3_o _ _ _ _ (by omega)]
             try rw [u2_off _ _ _ (by omega)]
             rw [pr_off _ _ (by omega)]
           · rw [e]
             first
               | exact WV_t (WV_p3 hWp hn2 hB hP2 _ _) hn2 _ (by omega) (by decide)
               | exact WV_p3 (WV_t hWp hn2 _ (by omega) (by decide)) (by rw [uz_ne _ _ (by omega)]; exact hn2) hB hP2 _ _)
  · rw [flN_at, if_pos hc]
    exact ⟨fun _ l l1 => absurd l1 (Nat.not_lt_zero _), fun _ => rfl⟩
theorem L_marchC {G : amG} {I : Nat → Nat → Int} {R : Nat → Nat → Option Nat} {L : Nat → Nat → Int64} {x : Nat} {Q : amR → amH → Prop} (hG : amG0 G) {b : Nat} (hB : wb b) (hRW : RW R b) {z : Row} (hW : WV I b z) (hb : wfB z) (hRA : R 356 0 = some 357) (hRP : RP R 357) (hQ : ∀ J : Nat → Nat → Int, FM I J b → WV J b (mchN z (z 98).toNat) → Q (Sum.inl none) (J, R, L, (SH sT), x, 0, 0)) :
    ∀ (n : Nat) (j : Int) (J : Nat → Nat → Int) (l3 : Option amV), (0 ≤ j ∧ j ≤ z 98 ∧ z 98 - j < n) → FM I J b → WV J b (mchN z j.toNat) → X G mX2_march Q 2 [some (aR (some 356)), some (aR (some b)), some (aI j), l3] [] (J, R, L, (SH sT), x, 0, 0) := by
  intro n
  induction n with
  | zero =>
    intros
    exfalso; omega
  | succ n ih =>
    intro j J l3 h1 hF hJ
    have hn1 := hb.2.1.1
    have hn2 := hb.2.1.2
    have hb1 := wb_le hB
    obtain ⟨m1, m2, m3⟩ := mchN_inv hb j.toNat (by omega)
    have h98 := m2 98 (by omega)
    have hs := mchN_s z j.toNat
    have hQ' : j = z 98 → ∀ J : Nat → Nat → Int, FM I J b → WV J b (mchN z j.toNat) → Q (Sum.inl none) (J, R, L, (SH sT), x, 0, 0) := fun e => by rw [e]; exact hQ
    generalize mchN z j.toNat = w at *
    refine B_X2_march_2 ?_
    try dsimp only
    try simp (disch := omega) only [u2_same, u2_ne, wN hJ, wO hJ, wTu hJ, wGi hJ, wMi hJ, wL0 hJ, wL1 hJ, wG0 hJ, wG1 hJ, wT hJ, wH hJ, h98]
    refine ⟨sw0 hB, ?_⟩
    try simp (disch := omega) only [u2_same, u2_ne, wN hJ, wO hJ, wTu hJ, wGi hJ, wMi hJ, wL0 hJ, wL1 hJ, wG0 hJ, wG1 hJ, wT hJ, wH hJ, h98]
    refine ⟨fun c7_0 => ?_, fun c7_0 => ?_⟩
    · refine B_X2_march_63 ?_
      try dsimp only
      try simp (disch := omega) only [u2_same, u2_ne, wN hJ, wO hJ, wTu hJ, wGi hJ, wMi hJ, wL0 hJ, wL1 hJ, wG0 hJ, wG1 hJ, wT hJ, wH hJ, h98]
      refine ⟨rfl, ?_⟩
      exact hQ' (by omega) J hF hJ
    · refine ⟨sw0 hB, _, hRW.tr, ?_⟩
      refine ⟨_, _, sw4 hB, ⟨by decide, by decide⟩, ⟨by omega, by omega⟩, _, hRW.t (by omega), ?_⟩
      refine ⟨swT hB (by omega), ?_⟩
      try simp (disch := omega) only [u2_same, u2_ne, wN hJ, wO hJ, wTu hJ, wGi hJ, wMi hJ, wL0 hJ, wL1 hJ, wG0 hJ, wG1 hJ, wT hJ, wH hJ, h98]
      refine ⟨fun c21_0 => ?_, fun c21_0 => ?_⟩
      · refine B_X2_march_44 ?_
        try dsimp only
        try simp (disch := omega) only [u2_same, u2_ne, wN hJ, wO hJ, wTu hJ, wGi hJ, wMi hJ, wL0 hJ, wL1 hJ, wG0 hJ, wG1 hJ, wT hJ, wH hJ, h98]
        refine ⟨swT hB (by omega), ?_⟩
        try simp (disch := omega) only [u2_same, u2_ne, wN hJ, wO hJ, wTu hJ, wGi hJ, wMi hJ, wL0 hJ, wL1 hJ, wG0 hJ, wG1 hJ, wT hJ, wH hJ, h98]
        refine ⟨fun c49_1 => ?_, fun c49_1 => ?_⟩
        · refine B_X2_march_57 ?_
          try dsimp only
          try simp (disch := omega) only [u2_same, u2_ne, wN hJ, wO hJ, wTu hJ, wGi hJ, wMi hJ, wL0 hJ, wL1 hJ, wG0 hJ, wG1 hJ, wT hJ, wH hJ, h98]
          refine ⟨by (refine ⟨?_, ?_⟩ <;> omega), ?_⟩
          first
            | (refine ih (j + 1) _ _ (by omega) (FM_trans hF hK) ?_
               rw [show (j + 1).toNat = j.toNat + 1 by omega, hs]
               exact wK)
            | (refine ih (j + 1) _ _ (by omega) (FM_trans hF (FM_of hK)) ?_
               rw [show (j + 1).toNat = j.toNat + 1 by omega, hs]
               exact wK)
            | (have hTj := m1.2.2.1 j.toNat (by omega)
               unfold wfT1 at hTj
               refine ih (j + 1) _ _ (by omega) hF ?_
               rw [show (j + 1).toNat = j.toNat + 1 by omega, hs, marchZ_id (by omega) (by omega)]
               exact hJ)
        · refine ⟨⟨Nat.zero_le _, Nat.zero_le _, Nat.le_of_ble_eq_true rfl⟩, trivial, ?_⟩
          refine D_stepBack hG hB hRW hJ m1 (k := j) (by omega) (by omega) (fun K hK wK => ?_)
          refine af_N0 rfl rfl rfl ?_
          try dsimp only
          try simp (disch := omega) only [u2_same, u2_ne, wN hJ, wO hJ, wTu hJ, wGi hJ, wMi hJ, wL0 hJ, wL1 hJ, wG0 hJ, wG1 hJ, wT hJ, wH hJ, h98]
          refine B_X2_march_57 ?_
          try dsimp only
          try simp (disch := omega) only [u2_same, u2_ne, wN hJ, wO hJ, wTu hJ, wGi hJ, wMi hJ, wL0 hJ, wL1 hJ, wG0 hJ, wG1 hJ, wT hJ, wH hJ, h98]
          refine ⟨by (refine ⟨?_, ?_⟩ <;> omega), ?_⟩
          first
            | (refine ih (j + 1) _ _ (by omega) (FM_trans hF hK) ?_
               rw [show (j + 1).toNat = j.toNat + 1 by omega, hs]
               exact wK)
            | (refine ih (j + 1) _ _ (by omega) (FM_trans hF (FM_of hK)) ?_
               rw [show (j + 1).toNat = j.toNat + 1 by omega, hs]
               exact wK)
            | (have hTj := m1.2.2.1 j.toNat (by omega)
               unfold wfT1 at hTj
               refine ih (j + 1) _ _ (by omega) hF ?_
               rw [show (j + 1).toNat = j.toNat + 1 by omega, hs, marchZ_id (by omega) (by omega)]
               exact hJ)
      · refine ⟨swT hB (by omega), ?_⟩
        try simp (disch := omega) only [u2_same, u2_ne, wN hJ, wO hJ, wTu hJ, wGi hJ, wMi hJ, wL0 hJ, wL1 hJ, wG0 hJ, wG1 hJ, wT hJ, wH hJ, h98]
        refine ⟨swT hB (by omega), ?_⟩
        try simp (disch := omega) only [u2_same, u2_ne, wN hJ, wO hJ, wTu hJ, wGi hJ, wMi hJ, wL0 hJ, wL1 hJ, wG0 hJ, wG1 hJ, wT hJ, wH hJ, h98]
        refine ⟨fun c32_0 => ?_, fun c32_0 => ?_⟩
        · refine B_X2_march_44 ?_
          try dsimp only
          try simp (disch := omega) only [u2_same, u2_ne, wN hJ, wO hJ, wTu hJ, wGi hJ, wMi hJ, wL0 hJ, wL1 hJ, wG0 hJ, wG1 hJ, wT hJ, wH hJ, h98]
          refine ⟨swT hB (by omega), ?_⟩
          try simp (disch := omega) only [u2_same, u2_ne, wN hJ, wO hJ, wTu hJ, wGi hJ, wMi hJ, wL0 hJ, wL1 hJ, wG0 hJ, wG1 hJ, wT hJ, wH hJ, h98]
          refine ⟨fun c49_1 => ?_, fun c49_1 => ?_⟩
          · refine B_X2_march_57 ?_
            try dsimp only
            try simp (disch := omega) only [u2_same, u2_ne, wN hJ, wO hJ, wTu hJ, wGi hJ, wMi hJ, wL0 hJ, wL1 hJ, wG0 hJ, wG1 hJ, wT hJ, wH hJ, h98]
            refine ⟨by (refine ⟨?_, ?_⟩ <;> omega), ?_⟩
            first
              | (refine ih (j + 1) _ _ (by omega) (FM_trans hF hK) ?_
                 rw [show (j + 1).toNat = j.toNat + 1 by omega, hs]
                 exact wK)
              | (refine ih (j + 1) _ _ (by omega) (FM_trans hF (FM_of hK)) ?_
                 rw [show (j + 1).toNat = j.toNat + 1 by omega, hs]
                 exact wK)
              | (have hTj := m1.2.2.1 j.toNat (by omega)
                 unfold wfT1 at hTj
                 refine ih (j + 1) _ _ (by omega) hF ?_
                 rw [show (j + 1).toNat = j.toNat + 1 by omega, hs, marchZ_id (by omega) (by omega)]
                 exact hJ)
          · refine ⟨⟨Nat.zero_le _, Nat.zero_le _, Nat.le_of_ble_eq_true rfl⟩, trivial, ?_⟩
            refine D_stepBack hG hB hRW hJ m1 (k := j) (by omega) (by omega) (fun K hK wK => ?_)
            refine af_N0 rfl rfl rfl ?_
            try dsimp only
            try simp (disch := omega) only [u2_same, u2_ne, wN hJ, wO hJ, wTu hJ, wGi hJ, wMi hJ, wL0 hJ, wL1 hJ, wG0 hJ, wG1 hJ, wT hJ, wH hJ, h98]
            refine B_X2_march_57 ?_
            try dsimp only
            try simp (disch := omega) only [u2_same, u2_ne, wN hJ, wO hJ, wTu hJ, wGi hJ, wMi hJ, wL0 hJ, wL1 hJ, wG0 hJ, wG1 hJ, wT hJ, wH hJ, h98]
            refine ⟨by (refine ⟨?_, ?_⟩ <;> omega), ?_⟩
            first
              | (refine ih (j + 1) _ _ (by omega) (FM_trans hF hK) ?_
                 rw [show (j + 1).toNat = j.toNat + 1 by omega, hs]
                 exact wK)
              | (refine ih (j + 1) _ _ (by omega) (FM_trans hF (FM_of hK)) ?_
                 rw [show (j + 1).toNat = j.toNat + 1 by omega, hs]
                 exact wK)
              | (have hTj := m1.2.2.1 j.toNat (by omega)
                 unfold wfT1 at hTj
                 refine ih (j + 1) _ _ (by omega) hF ?_
                 rw [show (j + 1).toNat = j.toNat + 1 by omega, hs, marchZ_id (by omega) (by omega)]
                 exact hJ)
        · refine ⟨⟨Nat.zero_le _, Nat.zero_le _, Nat.le_of_ble_eq_true rfl⟩, sa0, ?_⟩
          refine D_stepToGoal hG hB hRW hJ m1 (k := j) (by omega) hRA hRP (by omega) (by omega) (fun K hK wK => ?_)
          refine af_N0 rfl rfl rfl ?_
          try dsimp only
          try simp (disch := omega) only [u2_same, u2_ne, wN hJ, wO hJ, wTu hJ, wGi hJ, wMi hJ, wL0 hJ, wL1 hJ, wG0 hJ, wG1 hJ, wT hJ, wH hJ, h98]
          refine B_X2_march_41 ?_
          try dsimp only
          try simp (disch := omega) only [u2_same, u2_ne, wN hJ, wO hJ, wTu hJ, wGi hJ, wMi hJ, wL0 hJ, wL1 hJ, wG0 hJ, wG1 hJ, wT hJ, wH hJ, h98]
          refine B_X2_march_57 ?_
          try dsimp only
          try simp (disch := omega) only [u2_same, u2_ne, wN hJ, wO hJ, wTu hJ, wGi hJ, wMi hJ, wL0 hJ, wL1 hJ, wG0 hJ, wG1 hJ, wT hJ, wH hJ, h98]
          refine ⟨by (refine ⟨?_, ?_⟩ <;> omega), ?_⟩
          first
            | (refine ih (j + 1) _ _ (by omega) (FM_trans hF hK) ?_
               rw [show (j + 1).toNat = j.toNat + 1 by omega, hs]
               exact wK)
            | (refine ih (j + 1) _ _ (by omega) (FM_trans hF (FM_of hK)) ?_
               rw [show (j + 1).toNat = j.toNat + 1 by omega, hs]
               exact wK)
            | (have hTj := m1.2.2.1 j.toNat (by omega)
               unfold wfT1 at hTj
               refine ih (j + 1) _ _ (by omega) hF ?_
               rw [show (j + 1).toNat = j.toNat + 1 by omega, hs, marchZ_id (by omega) (by omega)]
               exact hJ)
theorem D_march {G : amG} {I : Nat → Nat → Int} {R : Nat → Nat → Option Nat} {L : Nat → Nat → Int64} {x c t : Nat} {Q : amR → amH → Prop} (hG : amG0 G) {b : Nat} (hB : wb b) (hRW : RW R b) {z : Row} (hW : WV I b z) (hb : wfB z) (hRA : R 356 0 = some 357) (hRP : RP R 357) (hQ : ∀ J : Nat → Nat → Int, FM I J b → WV J b (mchN z (z 98).toNat) → Q (Sum.inl none) (J, R, L, (SH sT), x, 0, 0)) : CT G sX2_march [aR (some 356), aR (some b)] (I, R, L, (SH sT), x, c, t) Q := by
  refine CT_of ok_X2_march hG (Nat.le_of_ble_eq_true rfl) ?_
  show X G mX2_march Q 0 _ [] (I, R, L, (SH sT), x, 0, 0)
  have hn1 := hb.2.1.1
  have hn2 := hb.2.1.2
  have hb1 := wb_le hB
  refine B_X2_march_0 ?_
  try dsimp only
  try simp (disch := omega) only [p3_f, p3_q, p3_o, u2_p3_o, pr_at, pr_off, u2_pr, wN hW, wO hW, wTu hW, wGi hW, wMi hW, wL0 hW, wL1 hW, wG0 hW, wG1 hW, wT hW, wH hW, Nat.reduceAdd]
  exact L_marchC hG hB hRW hW hb hRA hRP hQ 13 0 I none (by omega) (FM_refl I b) hW
