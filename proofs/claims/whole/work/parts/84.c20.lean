theorem u2_pr_o (I : Nat → Nat → Int) {a c : Nat} (r : Row) (k : Nat) (v : Int) (h : c ≠ a) : u2 (pr I a r) c k v = pr (u2 I c k v) a r := (pr_u2 I r k v h).symm
theorem pS_mono {t r0 : Row} : ∀ (n : Nat) {s : TS}, pS t r0 n = some s → ∀ m : Nat, m ≤ n → ∃ s' : TS, pS t r0 m = some s' := by
  intro n
  induction n with
  | zero => intro s h m hm; exact ⟨s, by rw [show m = 0 by omega]; exact h⟩
  | succ n ih =>
    intro s h m hm
    rcases (by omega : m ≤ n ∨ m = n + 1) with q | q
    · rw [pS_s] at h
      cases e : pS t r0 n with
      | none => rw [e] at h; exact absurd h (by simp)
      | some s0 => exact ih e m q
    · exact ⟨s, by rw [q]; exact h⟩
theorem ro_step {t r0 : Row} {n i : Nat} {sf : TS} {w d o : Int} {r : Row} (hf : pS t r0 n = some sf) (h2 : sf.1 = 2) (hd : 0 < sf.2.1) (hi : i < n) (hs : pS t r0 i = some (w, d, o, r)) :
    (48 ≤ t i ∧ t i ≤ 57 → pS t r0 (i + 1) = some (w, d + 1, o, uz r (3 * o + w).toNat (nxD d (r (3 * o + w).toNat) (t i - 48))) ∧ (i + 1 = n → w = 2)) ∧
    (¬ (48 ≤ t i ∧ t i ≤ 57) → 0 < d ∧ ((w = 0 ∧ t i = 62) ∨ (w = 1 ∧ t i = 44) ∨ (w = 2 ∧ t i = 59)) ∧ i + 1 ≠ n ∧ pS t r0 (i + 1) = some ((w + 1) % 3, 0, (if w = 2 then o + 1 else o), r)) := by
  obtain ⟨s', e⟩ := pS_mono n hf (i + 1) (by omega)
  have hp := pS_inv i _ hs
  have hw : 0 ≤ w ∧ w ≤ 2 := hp.1
  have e2 := e
  rw [pS_s, hs] at e2
  have e2 : tkC (w, d, o, r) (t i) = some s' := e2
  have hl : i + 1 = n → s' = sf := fun q => by rw [q, hf] at e; exact (Option.some.inj e).symm
  unfold tkC at e2
  refine ⟨fun hc => ?_, fun hc => ?_⟩
  · rw [if_pos hc] at e2
    split at e2
    · have e2 := (Option.some.inj e2).symm
      rw [e2] at e
      refine ⟨e, fun q => ?_⟩
      have := hl q
      rw [← this, e2] at h2
      exact h2
    · exact absurd e2 (by simp)
  · rw [if_neg hc] at e2
    split at e2
    · rename_i hq
      have hq1 : 0 < d := hq.1
      have hq2 : t i = sepC w := hq.2
      have e2 := (Option.some.inj e2).symm
      rw [e2] at e
      refine ⟨hq1, ?_, fun q => ?_, e⟩
      · unfold sepC at hq2
        rcases (by omega : w = 0 ∨ w = 1 ∨ w = 2) with u | u | u <;> subst u
        · exact Or.inl ⟨rfl, hq2⟩
        · exact Or.inr (Or.inl ⟨rfl, hq2⟩)
        · exact Or.inr (Or.inr ⟨rfl, hq2⟩)
      · have := hl q
        rw [← this, e2] at hd
        have hd : (0 : Int) < 0 := hd
        omega
    · exact absurd e2 (by simp)
theorem ro_last {o num c col nx : Int} {r T Gl : Row} (p2 : 0 ≤ o) (hn : 10 * num + c - 48 = nx) (hc : col = r (3 * o + 1).toNat) (hto : T o.toNat = r (3 * o).toNat) (hj0 : ∀ j : Nat, (j : Int) < o → T j = r (3 * j) ∧ Gl j = 12 * r (3 * j + 2) + r (3 * j + 1)) : ∀ j : Nat, (j : Int) ≤ o → T j = uz r (3 * o + 2).toNat nx (3 * j) ∧ uz Gl o.toNat (12 * (10 * num + c - 48) + col) j = 12 * uz r (3 * o + 2).toNat nx (3 * j + 2) + uz r (3 * o + 2).toNat nx (3 * j + 1) := fun j hj => by
  rcases (by omega : (j : Int) < o ∨ j = o.toNat) with y | y
  · rw [uz_ne (j := j) _ _ (by omega), uz_ne (j := 3 * j) _ _ (by omega), uz_ne (j := 3 * j + 2) _ _ (by omega), uz_ne (j := 3 * j + 1) _ _ (by omega)]
    exact hj0 j y
  · have e0 : (3 * o).toNat = 3 * j := by omega
    have e1 : (3 * o + 1).toNat = 3 * j + 1 := by omega
    have e2 : (3 * o + 2).toNat = 3 * j + 2 := by omega
    rw [← y, e0] at hto
    rw [e1] at hc
    rw [← y, e2, uz_same, uz_same, uz_ne (j := 3 * j) _ _ (by omega), uz_ne (j := 3 * j + 1) _ _ (by omega), hn, hc]
    exact ⟨hto, rfl⟩
theorem L_roEnd {G : amG} {I : Nat → Nat → Int} {R : Nat → Nat → Option Nat} {L : Nat → Nat → Int64} {x : Nat} {Q : amR → amH → Prop} (hG : amG0 G) (hRT : RT R) {len : Int} (hlen : I 346 1 = len) {T Gl : Row} {k num col : Int} {l5 : Option amV} (hQ : Q (Sum.inl (some (aI k))) (pr (pr I 348 T) 349 Gl, R, L, SH, x, 0, 0)) : X G mX6_readOrders Q 9 [some (aR (some 346)), some (aI k), some (aI num), some (aI col), some (aI len), l5] [] (pr (pr I 348 T) 349 Gl, R, L, SH, x, 0, 0) := by
  have ht := hlen
  refine B_X6_readOrders_9 ?_
  try dsimp only
  try simp (disch := omega) only [pr_at, pr_off, hlen]
  refine ⟨sx0, ?_⟩
  try simp (disch := omega) only [pr_at, pr_off, hlen]
  refine ⟨fun c15_0 => ?_, fun c15_0 => ?_⟩
  · refine B_X6_readOrders_128 ?_
    try dsimp only
    try simp (disch := omega) only [pr_at, pr_off, hlen]
    exact hQ
  · first
      | (exfalso; omega)
      | exact absurd True.intro (by assumption)
      | (refine ⟨fun c21_0 => ?_, fun c21_0 => ?_⟩
         · refine B_X6_readOrders_128 ?_
           try dsimp only
           try simp (disch := omega) only [pr_at, pr_off, hlen]
           exact hQ
         · refine ⟨sx0, _, hRT.1, ?_⟩
           refine ⟨_, sx1, ⟨by omega, by omega⟩, ?_⟩
           try simp (disch := omega) only [pr_at, pr_off, hlen]
           refine ⟨⟨Nat.zero_le _, Nat.zero_le _, Nat.le_of_ble_eq_true rfl⟩, trivial, ?_⟩
           skip
           refine af_I0 rfl rfl (by decide) ?_
           try dsimp only
           try simp (disch := omega) only [pr_at, pr_off, hlen]
           refine B_X6_readOrders_40 ?_
           try dsimp only
           try simp (disch := omega) only [pr_at, pr_off, hlen]
           refine ⟨fun c40_1 => ?_, fun c40_1 => ?_⟩
           · refine B_X6_readOrders_57 ?_
             try dsimp only
             try simp (disch := omega) only [pr_at, pr_off, hlen]
             refine ⟨fun c61_2 => ?_, fun c61_2 => ?_⟩
             · refine B_X6_readOrders_76 ?_
               try dsimp only
               try simp (disch := omega) only [pr_at, pr_off, hlen]
               refine ⟨fun c80_3 => ?_, fun c80_3 => ?_⟩
               · refine B_X6_readOrders_87 ?_
                 try dsimp only
                 try simp (disch := omega) only [pr_at, pr_off, hlen]
                 refine ⟨fun c91_4 => ?_, fun c91_4 => ?_⟩
                 · refine B_X6_readOrders_105 ?_
                   try dsimp only
                   try simp (disch := omega) only [pr_at, pr_off, hlen]
                   refine ⟨sx0, _, hRT.2.2, ?_⟩
                   refine ⟨by (refine ⟨?_, ?_⟩ <;> omega), ?_⟩
                   refine ⟨by (refine ⟨?_, ?_⟩ <;> omega), ?_⟩
                   refine ⟨_, sx3, ⟨by omega, by omega⟩, ?_⟩
                   try simp (disch := omega) only [pr_at, pr_off, hlen]
                   refine ⟨by (refine ⟨?_, ?_⟩ <;> omega), ?_⟩
                   refine B_X6_readOrders_122 ?_
                   try dsimp only
                   try simp (disch := omega) only [pr_at, pr_off, hlen]
                   refine ⟨by (refine ⟨?_, ?_⟩ <;> omega), ?_⟩
                   skip
                 · refine ⟨sx0, ?_⟩
                   try simp (disch := omega) only [pr_at, pr_off, hlen]
                   refine ⟨by (refine ⟨?_, ?_⟩ <;> omega), ?_⟩
                   refine ⟨fun c102_4 => ?_, fun c102_4 => ?_⟩
                   · refine B_X6_readOrders_122 ?_
                     try dsimp only
                     try simp (disch := omega) only [pr_at, pr_off, hlen]
                     refine ⟨by (refine ⟨?_, ?_⟩ <;> omega), ?_⟩
                     skip
                   · refine B_X6_readOrders_105 ?_
                     try dsimp only
                     try simp (disch := omega) only [pr_at, pr_off, hlen]
                     refine ⟨sx0, _, hRT.2.2, ?_⟩
                     refine ⟨by (refine ⟨?_, ?_⟩ <;> omega), ?_⟩
                     refine ⟨by (refine ⟨?_, ?_⟩ <;> omega), ?_⟩
                     refine ⟨_, sx3, ⟨by omega, by omega⟩, ?_⟩
                     try simp (disch := omega) only [pr_at, pr_off, hlen]
                     refine ⟨by (refine ⟨?_, ?_⟩ <;> omega), ?_⟩
                     refine B_X6_readOrders_122 ?_
                     try dsimp only
                     try simp (disch := omega) only [pr_at, pr_off, hlen]
                     refine ⟨by (refine ⟨?_, ?_⟩ <;> omega), ?_⟩
                     skip
               · refine B_X6_readOrders_87 ?_
                 try dsimp only
                 try simp (disch := omega) only [pr_at, pr_off, hlen]
                 refine ⟨fun c91_4 => ?_, fun c91_4 => ?_⟩
                 · refine B_X6_readOrders_105 ?_
                   try dsimp only
                   try simp (disch := omega) only [pr_at, pr_off, hlen]
                   refine ⟨sx0, _, hRT.2.2, ?_⟩
                   refine ⟨by (refine ⟨?_, ?_⟩ <;> omega), ?_⟩
                   refine ⟨by (refine ⟨?_, ?_⟩ <;> omega), ?_⟩
                   refine ⟨_, sx3, ⟨by omega, by omega⟩, ?_⟩
                   try simp (disch := omega) only [pr_at, pr_off, hlen]
                   refine ⟨by (refine ⟨?_, ?_⟩ <;> omega), ?_⟩
                   refine B_X6_readOrders_122 ?_
                   try dsimp only
                   try simp (disch := omega) only [pr_at, pr_off, hlen]
                   refine ⟨by (refine ⟨?_, ?_⟩ <;> omega), ?_⟩
                   skip
                 · refine ⟨sx0, ?_⟩
                   try simp (disch := omega) only [pr_at, pr_off, hlen]
                   refine ⟨by (refine ⟨?_, ?_⟩ <;> omega), ?_⟩
                   refine ⟨fun c102_4 => ?_, fun c102_4 => ?_⟩
                   · refine B_X6_readOrders_122 ?_
                     try dsimp only
                     try simp (disch := omega) only [pr_at, pr_off, hlen]
                     refine ⟨by (refine ⟨?_, ?_⟩ <;> omega), ?_⟩
                     skip
                   · refine B_X6_readOrders_105 ?_
                     try dsimp only
                     try simp (disch := omega) only [pr_at, pr_off, hlen]
                     refine ⟨sx0, _, hRT.2.2, ?_⟩
                     refine ⟨by (refine ⟨?_, ?_⟩ <;> omega), ?_⟩
                     refine ⟨by (refine ⟨?_, ?_⟩ <;> omega), ?_⟩
                     refine ⟨_, sx3, ⟨by omega, by omega⟩, ?_⟩
                     try simp (disch := omega) only [pr_at, pr_off, hlen]
                     refine ⟨by (refine ⟨?_, ?_⟩ <;> omega), ?_⟩
                     refine B_X6_readOrders_122 ?_
                     try dsimp only
                     try simp (disch := omega) only [pr_at, pr_off, hlen]
                     refine ⟨by (refine ⟨?_, ?_⟩ <;> omega), ?_⟩
                     skip
             · refine ⟨sx0, _, hRT.2.1, ?_⟩
               refine ⟨_, sx2, ⟨by omega, by omega⟩, ?_⟩
               try simp (disch := omega) only [pr_at, pr_off, hlen]
               refine B_X6_readOrders_87 ?_
               try dsimp only
               try simp (disch := omega) only [pr_at, pr_off, hlen]
               refine ⟨fun c91_3 => ?_, fun c91_3 => ?_⟩
               · refine B_X6_readOrders_105 ?_
                 try dsimp only
                 try simp (disch := omega) only [pr_at, pr_off, hlen]
                 refine ⟨sx0, _, hRT.2.2, ?_⟩
                 refine ⟨by (refine ⟨?_, ?_⟩ <;> omega), ?_⟩
                 refine ⟨by (refine ⟨?_, ?_⟩ <;> omega), ?_⟩
                 refine ⟨_, sx3, ⟨by omega, by omega⟩, ?_⟩
                 try simp (disch := omega) only [pr_at, pr_off, hlen]
                 refine ⟨by (refine ⟨?_, ?_⟩ <;> omega), ?_⟩
                 refine B_X6_readOrders_122 ?_
                 try dsimp only
                 try simp (disch := omega) only [pr_at, pr_off, hlen]
                 refine ⟨by (refine ⟨?_, ?_⟩ <;> omega), ?_⟩
                 skip
               · refine ⟨sx0, ?_⟩
                 try simp (disch := omega) only [pr_at, pr_off, hlen]
                 refine ⟨by (refine ⟨?_, ?_⟩ <;> omega), ?_⟩
                 refine ⟨fun c102_3 => ?_, fun c102_3 => ?_⟩
                 · refine B_X6_readOrders_122 ?_
                   try dsimp only
                   try simp (disch := omega) only [pr_at, pr_off, hlen]
                   refine ⟨by (refine ⟨?_, ?_⟩ <;> omega), ?_⟩
                   skip
                 · refine B_X6_readOrders_105 ?_
                   try dsimp only
                   try simp (disch := omega) only [pr_at, pr_off, hlen]
                   refine ⟨sx0, _, hRT.2.2, ?_⟩
                   refine ⟨by (refine ⟨?_, ?_⟩ <;> omega), ?_⟩
                   refine ⟨by (refine ⟨?_, ?_⟩ <;> omega), ?_⟩
                   refine ⟨_, sx3, ⟨by omega, by omega⟩, ?_⟩
                   try simp (disch := omega) only [pr_at, pr_off, hlen]
                   refine ⟨by (refine ⟨?_, ?_⟩ <;> omega), ?_⟩
                   refine B_X6_readOrders_122 ?_
                   try dsimp only
                   try simp (disch := omega) only [pr_at, pr_off, hlen]
                   refine ⟨by (refine ⟨?_, ?_⟩ <;> omega), ?_⟩
                   skip
           · refine ⟨by (refine ⟨?_, ?_⟩ <;> omega), ?_⟩
             refine ⟨by (refine ⟨?_, ?_⟩ <;> omega), ?_⟩
             refine ⟨by (refine ⟨?_, ?_⟩ <;> omega), ?_⟩
             refine B_X6_readOrders_87 ?_
             try dsimp only
             try simp (disch := omega) only [pr_at, pr_off, hlen]
             refine ⟨fun c91_2 => ?_, fun c91_2 => ?_⟩
             · refine B_X6_readOrders_105 ?_
               try dsimp only
               try simp (disch := omega) only [pr_at, pr_off, hlen]
               refine ⟨sx0, _, hRT.2.2, ?_⟩
               refine ⟨by (refine ⟨?_, ?_⟩ <;> omega), ?_⟩
               refine ⟨by (refine ⟨?_, ?_⟩ <;> omega), ?_⟩
               refine ⟨_, sx3, ⟨by omega, by omega⟩, ?_⟩
               try simp (disch := omega) only [pr_at, pr_off, hlen]
               refine ⟨by (refine ⟨?_, ?_⟩ <;> omega), ?_⟩
               refine B_X6_readOrders_122 ?_
               try dsimp only
               try simp (disch := omega) only [pr_at, pr_off, hlen]
               refine ⟨by (refine ⟨?_, ?_⟩ <;> omega), ?_⟩
               skip
             · refine ⟨sx0, ?_⟩
               try simp (disch := omega) only [pr_at, pr_off, hlen]
               refine ⟨by (refine ⟨?_, ?_⟩ <;> omega), ?_⟩
               refine ⟨fun c102_2 => ?_, fun c102_2 => ?_⟩
               · refine B_X6_readOrders_122 ?_
                 try dsimp only
                 try simp (disch := omega) only [pr_at, pr_off, hlen]
                 refine ⟨by (refine ⟨?_, ?_⟩ <;> omega), ?_⟩
                 skip
               · refine B_X6_readOrders_105 ?_
                 try dsimp only
                 try simp (disch := omega) only [pr_at, pr_off, hlen]
                 refine ⟨sx0, _, hRT.2.2, ?_⟩
                 refine ⟨by (refine ⟨?_, ?_⟩ <;> omega), ?_⟩
                 refine ⟨by (refine ⟨?_, ?_⟩ <;> omega), ?_⟩
                 refine ⟨_, sx3, ⟨by omega, by omega⟩, ?_⟩
                 try simp (disch := omega) only [pr_at, pr_off, hlen]
                 refine ⟨by (refine ⟨?_, ?_⟩ <;> omega), ?_⟩
                 refine B_X6_readOrders_122 ?_
                 try dsimp only
                 try simp (disch := omega) only [pr_at, pr_off, hlen]
                 refine ⟨by (refine ⟨?_, ?_⟩ <;> omega), ?_⟩
                 skip)
theorem L_ro {G : amG} {I : Nat → Nat → Int} {R : Nat → Nat → Option Nat} {L : Nat → Nat → Int64} {x : Nat} {Q : amR → amH → Prop} (hG : amG0 G) (hRT : RT R) {len : Int} {tt r0 : Row} {sf : TS} (hlen : I 346 1 = len) (htt : I 347 = tt) (hl : 0 ≤ len ∧ len ≤ 60) (hT : ∀ k : Nat, k < 60 → 0 ≤ I 347 k ∧ I 347 k ≤ 1000) (hf : pS tt r0 len.toNat = some sf) (hf2 : sf.1 = 2) (hfd : 0 < sf.2.1) (hK : ∀ (o : Int) (r T Gl : Row), (∃ d : Int, pS tt r0 len.toNat = some (2, d, o, r)) → (∀ j : Nat, (j : Int) ≤ o → T j = r (3 * j) ∧ Gl j = 12 * r (3 * j + 2) + r (3 * j + 1)) → Q (Sum.inl (some (aI (o + 1)))) (pr (pr I 348 T) 349 Gl, R, L, SH, x, 0, 0)) :
    ∀ (n : Nat) (i num col w d o : Int) (r T Gl : Row) (l5 : Option amV), (0 ≤ i ∧ i < len ∧ len - i < n) → pS tt r0 i.toNat = some (w, d, o, r) → num = (if d = 0 then 0 else r (3 * o + w).toNat) → (w = 2 → col = r (3 * o + 1).toNat) → (0 < w → T o.toNat = r (3 * o).toNat) → (∀ j : Nat, (j : Int) < o → T j = r (3 * j) ∧ Gl j = 12 * r (3 * j + 2) + r (3 * j + 1)) → X G mX6_readOrders Q 9 [some (aR (some 346)), some (aI o), some (aI num), some (aI col), some (aI i), l5] [] (pr (pr I 348 T) 349 Gl, R, L, SH, x, 0, 0) := by
  intro n
  induction n with
  | zero =>
    intros
    exfalso; omega
  | succ n ih =>
    intro i num col w d o r T Gl l5 h1 hs hn hc hto hj0
    obtain ⟨p1, p2, p3, p4, p5, p6⟩ := pS_inv _ _ hs
    have p1 : 0 ≤ w ∧ w ≤ 2 := p1
    have p2 : 0 ≤ o := p2
    have p3 : 6 * o + 2 * w + (if 0 < d then 1 else 0) ≤ (i.toNat : Int) := p3
    have p3a : 6 * o + 2 * w ≤ 60 := by split at p3 <;> omega
    have p4 : d = 0 ∨ (d = 1 ∧ 0 ≤ r (3 * o + w).toNat ∧ r (3 * o + w).toNat ≤ 9) ∨ (d = 2 ∧ 10 ≤ r (3 * o + w).toNat ∧ r (3 * o + w).toNat ≤ 11 ∧ w < 2) := p4
    have p6 : ∀ j : Nat, (j : Int) < 3 * o + w → 0 ≤ r j ∧ r j ≤ (if j % 3 = 2 then 7 else 11) := p6
    have hcol : w = 2 → 0 ≤ col ∧ col ≤ 11 := fun u => by
      have := p6 (3 * o + 1).toNat (by omega)
      rw [hc u]
      split at this <;> omega
    have hnum : 0 ≤ num ∧ num ≤ 11 := by rw [hn]; split <;> omega
    have hst := ro_step hf hf2 hfd (by omega) hs
    have htb := hT i.toNat (by omega)
    have ht : I 347 = tt := htt
    rw [ht] at htb
    have ei : (i + 1).toNat = i.toNat + 1 := by omega
    have e1 : (3 * o + 1).toNat = 3 * o.toNat + 1 := by omega
    have e0 : (3 * o).toNat = 3 * o.toNat := by omega
    refine B_X6_readOrders_9 ?_
    try dsimp only
    try simp (disch := omega) only [pr_at, pr_off, u2_pr, u2_pr_o, hlen, ht]
    refine ⟨sx0, ?_⟩
    try simp (disch := omega) only [pr_at, pr_off, u2_pr, u2_pr_o, hlen, ht]
    refine ⟨fun c15_0 => ?_, fun c15_0 => ?_⟩
    · refine B_X6_readOrders_128 ?_
      try dsimp only
      try simp (disch := omega) only [pr_at, pr_off, u2_pr, u2_pr_o, hlen, ht]
      first
        | (exfalso; omega)
        | exact absurd True.intro (by assumption)
        | (exfalso
           omega)
    · refine ⟨fun c21_0 => ?_, fun c21_0 => ?_⟩
      · refine B_X6_readOrders_128 ?_
        try dsimp only
        try simp (disch := omega) only [pr_at, pr_off, u2_pr, u2_pr_o, hlen, ht]
        first
          | (exfalso; omega)
          | exact absurd True.intro (by assumption)
          | (exfalso
             omega)
      · refine ⟨sx0, _, hRT.1, ?_⟩
        refine ⟨_, sx1, ⟨by omega, by omega⟩, ?_⟩
        try simp (disch := omega) only [pr_at, pr_off, u2_pr, u2_pr_o, hlen, ht]
        refine ⟨⟨Nat.zero_le _, Nat.zero_le _, Nat.le_of_ble_eq_true rfl⟩, trivial, ?_⟩
        refine D_isDigit hG (fun rd hrd => ?_)
        refine af_I0 rfl rfl (by decide) ?_
        try dsimp only
        try simp (disch := omega) only [pr_at, pr_off, u2_pr, u2_pr_o, hlen, ht]
        refine B_X6_readOrders_40 ?_
        try dsimp only
        try simp (disch := omega) only [pr_at, pr_off, u2_pr, u2_pr_o, hlen, ht]
        refine ⟨fun c40_1 => ?_, fun c40_1 => ?_⟩
        · refine B_X6_readOrders_57 ?_
          try dsimp only
          try simp (disch := omega) only [pr_at, pr_off, u2_pr, u2_pr_o, hlen, ht]
          refine ⟨fun c61_2 => ?_, fun c61_2 => ?_⟩
          · refine B_X6_readOrders_76 ?_
            try dsimp only
            try simp (disch := omega) only [pr_at, pr_off, u2_pr, u2_pr_o, hlen, ht]
            refine ⟨fun c80_3 => ?_, fun c80_3 => ?_⟩
            · refine B_X6_readOrders_87 ?_
              try dsimp only
              try simp (disch := omega) only [pr_at, pr_off, u2_pr, u2_pr_o, hlen, ht]
              refine ⟨fun c91_4 => ?_, fun c91_4 => ?_⟩
              · refine B_X6_readOrders_105 ?_
                try dsimp only
                try simp (disch := omega) only [pr_at, pr_off, u2_pr, u2_pr_o, hlen, ht]
                have hw2 : w = 2 := by
                  by_cases u : 48 ≤ tt i.toNat ∧ tt i.toNat ≤ 57
                  · exact (hst.1 u).2 (by omega)
                  · have := (hst.2 u)
                    omega
                have hcb := hcol hw2
                first
                  | (exfalso; omega)
                  | exact absurd True.intro (by assumption)
                  | (refine ⟨sx0, _, hRT.2.2, ?_⟩
                     refine ⟨by (refine ⟨?_, ?_⟩ <;> omega), ?_⟩
                     refine ⟨by (refine ⟨?_, ?_⟩ <;> omega), ?_⟩
                     refine ⟨_, sx3, ⟨by omega, by omega⟩, ?_⟩
                     try simp (disch := omega) only [pr_at, pr_off, u2_pr, u2_pr_o, hlen, ht]
                     refine ⟨by (refine ⟨?_, ?_⟩ <;> omega), ?_⟩
                     refine B_X6_readOrders_122 ?_
                     try dsimp only
                     try simp (disch := omega) only [pr_at, pr_off, u2_pr, u2_pr_o, hlen, ht]
                     refine ⟨by (refine ⟨?_, ?_⟩ <;> omega), ?_⟩
                     first
                       | exact absurd True.intro (by assumption)
                       | (exfalso; omega)
                       | (have hA := hst.1 (by omega)
                          have hnum2 : 10 * num + tt i.toNat - 48 = nxD d (r (3 * o + w).toNat) (tt i.toNat - 48) := by
                            unfold nxD
                            split
                            · rename_i u; rw [if_pos u] at hn; omega
                            · rename_i u; rw [if_neg u] at hn; omega
                          have hr1 : ∀ j : Nat, (j : Int) < 3 * o + w → uz r (3 * o + w).toNat (nxD d (r (3 * o + w).toNat) (tt i.toNat - 48)) j = r j := fun j hj => uz_ne _ _ (by omega)
                          rcases (by omega : i + 1 = len ∨ i + 1 < len) with yy | yy
                          · first
                              | (exfalso; omega)
                              | (have hw2 := hA.2 (by omega)
                                 subst hw2
                                 have hend := hK o _ T _ ⟨d + 1, by rw [← hA.1]; congr 1; omega⟩ (ro_last p2 hnum2 (hc rfl) (hto (by decide)) hj0)
                                 have hii : i + 1 = len := by omega
                                 rw [hii]
                                 exact L_roEnd hG hRT hlen hend)
                          · first
                              | (exfalso; omega)
                              | (refine ih (i + 1) _ _ w (d + 1) o _ T Gl _ (by omega) (by rw [ei]; exact hA.1) ?_ (fun u => ?_) (fun u => ?_) (fun j hj => ?_)
                                 · rw [hnum2, if_neg (by omega)]; exact (uz_same _ _ _).symm
                                 · rw [hr1 _ (by omega)]; exact hc u
                                 · rw [hr1 _ (by omega)]; exact hto u
                                 · rw [hr1 _ (by omega), hr1 _ (by omega), hr1 _ (by omega)]; exact hj0 j hj))
                       | (have hB := hst.2 (by omega)
                          obtain ⟨b1, b2, b3, b4⟩ := hB
                          rw [if_neg (show ¬ d = 0 by omega)] at hn
                          rcases b2 with ⟨u, y⟩ | ⟨u, y⟩ | ⟨u, y⟩
                          · subst u
                            first
                              | (exfalso; omega)
                              | (refine ih (i + 1) _ _ 1 0 o r _ Gl _ (by omega) (by rw [ei, b4]; rfl) rfl (fun z => by omega) (fun _ => ?_) (fun j hj => ?_)
                                 · rw [uz_same, hn, show (3 * o + 0).toNat = (3 * o).toNat by omega]
                                 · rw [uz_ne _ _ (by omega)]; exact hj0 j hj)
                          · subst u
                            first
                              | (exfalso; omega)
                              | (refine ih (i + 1) _ _ 2 0 o r T Gl _ (by omega) (by rw [ei, b4]; rfl) rfl (fun _ => hn) (fun _ => hto (by decide)) hj0)
                          · subst u
                            first
                              | (exfalso; omega)
                              | (refine ih (i + 1) _ _ 0 0 (o + 1) r T _ _ (by omega) (by rw [ei, b4]; rfl) rfl (fun z => by omega) (fun z => by omega) (fun j hj => ?_)
                                 rcases (by omega : (j : Int) < o ∨ j = o.toNat) with z | z
                                 · rw [uz_ne _ _ (by omega)]; exact hj0 j z
                                 · rw [z, uz_same, hn, hc rfl, e1, ← e0, show (3 * o).toNat + 2 = (3 * o + 2).toNat by omega]
                                   exact ⟨hto (by decide), rfl⟩)))
              · first
                  | (exfalso; omega)
                  | exact absurd True.intro (by assumption)
                  | (refine ⟨sx0, ?_⟩
                     try simp (disch := omega) only [pr_at, pr_off, u2_pr, u2_pr_o, hlen, ht]
                     refine ⟨by (refine ⟨?_, ?_⟩ <;> omega), ?_⟩
                     refine ⟨fun c102_4 => ?_, fun c102_4 => ?_⟩
                     · refine B_X6_readOrders_122 ?_
                       try dsimp only
                       try simp (disch := omega) only [pr_at, pr_off, u2_pr, u2_pr_o, hlen, ht]
                       refine ⟨by (refine ⟨?_, ?_⟩ <;> omega), ?_⟩
                       first
                         | exact absurd True.intro (by assumption)
                         | (exfalso; omega)
                         | (have hA := hst.1 (by omega)
                            have hnum2 : 10 * num + tt i.toNat - 48 = nxD d (r (3 * o + w).toNat) (tt i.toNat - 48) := by
                              unfold nxD
                              split
                              · rename_i u; rw [if_pos u] at hn; omega
                              · rename_i u; rw [if_neg u] at hn; omega
                            have hr1 : ∀ j : Nat, (j : Int) < 3 * o + w → uz r (3 * o + w).toNat (nxD d (r (3 * o + w).toNat) (tt i.toNat - 48)) j = r j := fun j hj => uz_ne _ _ (by omega)
                            rcases (by omega : i + 1 = len ∨ i + 1 < len) with yy | yy
                            · first
                                | (exfalso; omega)
                                | (have hw2 := hA.2 (by omega)
                                   subst hw2
                                   have hend := hK o _ T _ ⟨d + 1, by rw [← hA.1]; congr 1; omega⟩ (ro_last p2 hnum2 (hc rfl) (hto (by decide)) hj0)
                                   have hii : i + 1 = len := by omega
                                   rw [hii]
                                   exact L_roEnd hG hRT hlen hend)
                            · first
                                | (exfalso; omega)
                                | (refine ih (i + 1) _ _ w (d + 1) o _ T Gl _ (by omega) (by rw [ei]; exact hA.1) ?_ (fun u => ?_) (fun u => ?_) (fun j hj => ?_)
                                   · rw [hnum2, if_neg (by omega)]; exact (uz_same _ _ _).symm
                                   · rw [hr1 _ (by omega)]; exact hc u
                                   · rw [hr1 _ (by omega)]; exact hto u
                                   · rw [hr1 _ (by omega), hr1 _ (by omega), hr1 _ (by omega)]; exact hj0 j hj))
                         | (have hB := hst.2 (by omega)
                            obtain ⟨b1, b2, b3, b4⟩ := hB
                            rw [if_neg (show ¬ d = 0 by omega)] at hn
                            rcases b2 with ⟨u, y⟩ | ⟨u, y⟩ | ⟨u, y⟩
                            · subst u
                              first
                                | (exfalso; omega)
                                | (refine ih (i + 1) _ _ 1 0 o r _ Gl _ (by omega) (by rw [ei, b4]; rfl) rfl (fun z => by omega) (fun _ => ?_) (fun j hj => ?_)
                                   · rw [uz_same, hn, show (3 * o + 0).toNat = (3 * o).toNat by omega]
                                   · rw [uz_ne _ _ (by omega)]; exact hj0 j hj)
                            · subst u
                              first
                                | (exfalso; omega)
                                | (refine ih (i + 1) _ _ 2 0 o r T Gl _ (by omega) (by rw [ei, b4]; rfl) rfl (fun _ => hn) (fun _ => hto (by decide)) hj0)
                            · subst u
                              first
                                | (exfalso; omega)
                                | (refine ih (i + 1) _ _ 0 0 (o + 1) r T _ _ (by omega) (by rw [ei, b4]; rfl) rfl (fun z => by omega) (fun z => by omega) (fun j hj => ?_)
                                   rcases (by omega : (j : Int) < o ∨ j = o.toNat) with z | z
                                   · rw [uz_ne _ _ (by omega)]; exact hj0 j z
                                   · rw [z, uz_same, hn, hc rfl, e1, ← e0, show (3 * o).toNat + 2 = (3 * o + 2).toNat by omega]
                                     exact ⟨hto (by decide), rfl⟩))
                     · have hw2 : w = 2 := by
                         by_cases u : 48 ≤ tt i.toNat ∧ tt i.toNat ≤ 57
                         · exact (hst.1 u).2 (by omega)
                         · have := (hst.2 u)
                           omega
                       have hcb := hcol hw2
                       refine B_X6_readOrders_105 ?_
                       try dsimp only
                       try simp (disch := omega) only [pr_at, pr_off, u2_pr, u2_pr_o, hlen, ht]
                       have hw2 : w = 2 := by
                         by_cases u : 48 ≤ tt i.toNat ∧ tt i.toNat ≤ 57
                         · exact (hst.1 u).2 (by omega)
                         · have := (hst.2 u)
                           omega
                       have hcb := hcol hw2
                       first
                         | (exfalso; omega)
                         | exact absurd True.intro (by assumption)
                         | (refine ⟨sx0, _, hRT.2.2, ?_⟩
                            refine ⟨by (refine ⟨?_, ?_⟩ <;> omega), ?_⟩
                            refine ⟨by (refine ⟨?_, ?_⟩ <;> omega), ?_⟩
                            refine ⟨_, sx3, ⟨by omega, by omega⟩, ?_⟩
                            try simp (disch := omega) only [pr_at, pr_off, u2_pr, u2_pr_o, hlen, ht]
                            refine ⟨by (refine ⟨?_, ?_⟩ <;> omega), ?_⟩
                            refine B_X6_readOrders_122 ?_
                            try dsimp only
                            try simp (disch := omega) only [pr_at, pr_off, u2_pr, u2_pr_o, hlen, ht]
                            refine ⟨by (refine ⟨?_, ?_⟩ <;> omega), ?_⟩
                            first
                              | exact absurd True.intro (by assumption)
                              | (exfalso; omega)
                              | (have hA := hst.1 (by omega)
                                 have hnum2 : 10 * num + tt i.toNat - 48 = nxD d (r (3 * o + w).toNat) (tt i.toNat - 48) := by
                                   unfold nxD
                                   split
                                   · rename_i u; rw [if_pos u] at hn; omega
                                   · rename_i u; rw [if_neg u] at hn; omega
                                 have hr1 : ∀ j : Nat, (j : Int) < 3 * o + w → uz r (3 * o + w).toNat (nxD d (r (3 * o + w).toNat) (tt i.toNat - 48)) j = r j := fun j hj => uz_ne _ _ (by omega)
                                 rcases (by omega : i + 1 = len ∨ i + 1 < len) with yy | yy
                                 · first
                                     | (exfalso; omega)
                                     | (have hw2 := hA.2 (by omega)
                                        subst hw2
                                        have hend := hK o _ T _ ⟨d + 1, by rw [← hA.1]; congr 1; omega⟩ (ro_last p2 hnum2 (hc rfl) (hto (by decide)) hj0)
                                        have hii : i + 1 = len := by omega
                                        rw [hii]
                                        exact L_roEnd hG hRT hlen hend)
                                 · first
                                     | (exfalso; omega)
                                     | (refine ih (i + 1) _ _ w (d + 1) o _ T Gl _ (by omega) (by rw [ei]; exact hA.1) ?_ (fun u => ?_) (fun u => ?_) (fun j hj => ?_)
                                        · rw [hnum2, if_neg (by omega)]; exact (uz_same _ _ _).symm
                                        · rw [hr1 _ (by omega)]; exact hc u
                                        · rw [hr1 _ (by omega)]; exact hto u
                                        · rw [hr1 _ (by omega), hr1 _ (by omega), hr1 _ (by omega)]; exact hj0 j hj))
                              | (have hB := hst.2 (by omega)
                                 obtain ⟨b1, b2, b3, b4⟩ := hB
                                 rw [if_neg (show ¬ d = 0 by omega)] at hn
                                 rcases b2 with ⟨u, y⟩ | ⟨u, y⟩ | ⟨u, y⟩
                                 · subst u
                                   first
                                     | (exfalso; omega)
                                     | (refine ih (i + 1) _ _ 1 0 o r _ Gl _ (by omega) (by rw [ei, b4]; rfl) rfl (fun z => by omega) (fun _ => ?_) (fun j hj => ?_)
                                        · rw [uz_same, hn, show (3 * o + 0).toNat = (3 * o).toNat by omega]
                                        · rw [uz_ne _ _ (by omega)]; exact hj0 j hj)
                                 · subst u
                                   first
                                     | (exfalso; omega)
                                     | (refine ih (i + 1) _ _ 2 0 o r T Gl _ (by omega) (by rw [ei, b4]; rfl) rfl (fun _ => hn) (fun _ => hto (by decide)) hj0)
                                 · subst u
                                   first
                                     | (exfalso; omega)
                                     | (refine ih (i + 1) _ _ 0 0 (o + 1) r T _ _ (by omega) (by rw [ei, b4]; rfl) rfl (fun z => by omega) (fun z => by omega) (fun j hj => ?_)
                                        rcases (by omega : (j : Int) < o ∨ j = o.toNat) with z | z
                                        · rw [uz_ne _ _ (by omega)]; exact hj0 j z
                                        · rw [z, uz_same, hn, hc rfl, e1, ← e0, show (3 * o).toNat + 2 = (3 * o + 2).toNat by omega]
                                          exact ⟨hto (by decide), rfl⟩))))
            · first
                | (exfalso; omega)
                | exact absurd True.intro (by assumption)
                | (refine B_X6_readOrders_87 ?_
                   try dsimp only
                   try simp (disch := omega) only [pr_at, pr_off, u2_pr, u2_pr_o, hlen, ht]
                   refine ⟨fun c91_4 => ?_, fun c91_4 => ?_⟩
                   · refine B_X6_readOrders_105 ?_
                     try dsimp only
                     try simp (disch := omega) only [pr_at, pr_off, u2_pr, u2_pr_o, hlen, ht]
                     have hw2 : w = 2 := by
                       by_cases u : 48 ≤ tt i.toNat ∧ tt i.toNat ≤ 57
                       · exact (hst.1 u).2 (by omega)
                       · have := (hst.2 u)
                         omega
                     have hcb := hcol hw2
                     first
                       | (exfalso; omega)
                       | exact absurd True.intro (by assumption)
                       | (refine ⟨sx0, _, hRT.2.2, ?_⟩
                          refine ⟨by (refine ⟨?_, ?_⟩ <;> omega), ?_⟩
                          refine ⟨by (refine ⟨?_, ?_⟩ <;> omega), ?_⟩
                          refine ⟨_, sx3, ⟨by omega, by omega⟩, ?_⟩
                          try simp (disch := omega) only [pr_at, pr_off, u2_pr, u2_pr_o, hlen, ht]
                          refine ⟨by (refine ⟨?_, ?_⟩ <;> omega), ?_⟩
                          refine B_X6_readOrders_122 ?_
                          try dsimp only
                          try simp (disch := omega) only [pr_at, pr_off, u2_pr, u2_pr_o, hlen, ht]
                          refine ⟨by (refine ⟨?_, ?_⟩ <;> omega), ?_⟩
                          first
                            | exact absurd True.intro (by assumption)
                            | (exfalso; omega)
                            | (have hA := hst.1 (by omega)
                               have hnum2 : 10 * num + tt i.toNat - 48 = nxD d (r (3 * o + w).toNat) (tt i.toNat - 48) := by
                                 unfold nxD
                                 split
                                 · rename_i u; rw [if_pos u] at hn; omega
                                 · rename_i u; rw [if_neg u] at hn; omega
                               have hr1 : ∀ j : Nat, (j : Int) < 3 * o + w → uz r (3 * o + w).toNat (nxD d (r (3 * o + w).toNat) (tt i.toNat - 48)) j = r j := fun j hj => uz_ne _ _ (by omega)
                               rcases (by omega : i + 1 = len ∨ i + 1 < len) with yy | yy
                               · first
                                   | (exfalso; omega)
                                   | (have hw2 := hA.2 (by omega)
                                      subst hw2
                                      have hend := hK o _ T _ ⟨d + 1, by rw [← hA.1]; congr 1; omega⟩ (ro_last p2 hnum2 (hc rfl) (hto (by decide)) hj0)
                                      have hii : i + 1 = len := by omega
                                      rw [hii]
                                      exact L_roEnd hG hRT hlen hend)
                               · first
                                   | (exfalso; omega)
                                   | (refine ih (i + 1) _ _ w (d + 1) o _ T Gl _ (by omega) (by rw [ei]; exact hA.1) ?_ (fun u => ?_) (fun u => ?_) (fun j hj => ?_)
                                      · rw [hnum2, if_neg (by omega)]; exact (uz_same _ _ _).symm
                                      · rw [hr1 _ (by omega)]; exact hc u
                                      · rw [hr1 _ (by omega)]; exact hto u
                                      · rw [hr1 _ (by omega), hr1 _ (by omega), hr1 _ (by omega)]; exact hj0 j hj))
                            | (have hB := hst.2 (by omega)
                               obtain ⟨b1, b2, b3, b4⟩ := hB
                               rw [if_neg (show ¬ d = 0 by omega)] at hn
                               rcases b2 with ⟨u, y⟩ | ⟨u, y⟩ | ⟨u, y⟩
                               · subst u
                                 first
                                   | (exfalso; omega)
                                   | (refine ih (i + 1) _ _ 1 0 o r _ Gl _ (by omega) (by rw [ei, b4]; rfl) rfl (fun z => by omega) (fun _ => ?_) (fun j hj => ?_)
                                      · rw [uz_same, hn, show (3 * o + 0).toNat = (3 * o).toNat by omega]
                                      · rw [uz_ne _ _ (by omega)]; exact hj0 j hj)
                               · subst u
                                 first
                                   | (exfalso; omega)
                                   | (refine ih (i + 1) _ _ 2 0 o r T Gl _ (by omega) (by rw [ei, b4]; rfl) rfl (fun _ => hn) (fun _ => hto (by decide)) hj0)
                               · subst u
                                 first
                                   | (exfalso; omega)
                                   | (refine ih (i + 1) _ _ 0 0 (o + 1) r T _ _ (by omega) (by rw [ei, b4]; rfl) rfl (fun z => by omega) (fun z => by omega) (fun j hj => ?_)
                                      rcases (by omega : (j : Int) < o ∨ j = o.toNat) with z | z
                                      · rw [uz_ne _ _ (by omega)]; exact hj0 j z
                                      · rw [z, uz_same, hn, hc rfl, e1, ← e0, show (3 * o).toNat + 2 = (3 * o + 2).toNat by omega]
                                        exact ⟨hto (by decide), rfl⟩)))
                   · first
                       | (exfalso; omega)
                       | exact absurd True.intro (by assumption)
                       | (refine ⟨sx0, ?_⟩
                          try simp (disch := omega) only [pr_at, pr_off, u2_pr, u2_pr_o, hlen, ht]
                          refine ⟨by (refine ⟨?_, ?_⟩ <;> omega), ?_⟩
                          refine ⟨fun c102_4 => ?_, fun c102_4 => ?_⟩
                          · refine B_X6_readOrders_122 ?_
                            try dsimp only
                            try simp (disch := omega) only [pr_at, pr_off, u2_pr, u2_pr_o, hlen, ht]
                            refine ⟨by (refine ⟨?_, ?_⟩ <;> omega), ?_⟩
                            first
                              | exact absurd True.intro (by assumption)
                              | (exfalso; omega)
                              | (have hA := hst.1 (by omega)
                                 have hnum2 : 10 * num + tt i.toNat - 48 = nxD d (r (3 * o + w).toNat) (tt i.toNat - 48) := by
                                   unfold nxD
                                   split
                                   · rename_i u; rw [if_pos u] at hn; omega
                                   · rename_i u; rw [if_neg u] at hn; omega
                                 have hr1 : ∀ j : Nat, (j : Int) < 3 * o + w → uz r (3 * o + w).toNat (nxD d (r (3 * o + w).toNat) (tt i.toNat - 48)) j = r j := fun j hj => uz_ne _ _ (by omega)
                                 rcases (by omega : i + 1 = len ∨ i + 1 < len) with yy | yy
                                 · first
                                     | (exfalso; omega)
                                     | (have hw2 := hA.2 (by omega)
                                        subst hw2
                                        have hend := hK o _ T _ ⟨d + 1, by rw [← hA.1]; congr 1; omega⟩ (ro_last p2 hnum2 (hc rfl) (hto (by decide)) hj0)
                                        have hii : i + 1 = len := by omega
                                        rw [hii]
                                        exact L_roEnd hG hRT hlen hend)
                                 · first
                                     | (exfalso; omega)
                                     | (refine ih (i + 1) _ _ w (d + 1) o _ T Gl _ (by omega) (by rw [ei]; exact hA.1) ?_ (fun u => ?_) (fun u => ?_) (fun j hj => ?_)
                                        · rw [hnum2, if_neg (by omega)]; exact (uz_same _ _ _).symm
                                        · rw [hr1 _ (by omega)]; exact hc u
                                        · rw [hr1 _ (by omega)]; exact hto u
                                        · rw [hr1 _ (by omega), hr1 _ (by omega), hr1 _ (by omega)]; exact hj0 j hj))
                              | (have hB := hst.2 (by omega)
                                 obtain ⟨b1, b2, b3, b4⟩ := hB
                                 rw [if_neg (show ¬ d = 0 by omega)] at hn
                                 rcases b2 with ⟨u, y⟩ | ⟨u, y⟩ | ⟨u, y⟩
                                 · subst u
                                   first
                                     | (exfalso; omega)
                                     | (refine ih (i + 1) _ _ 1 0 o r _ Gl _ (by omega) (by rw [ei, b4]; rfl) rfl (fun z => by omega) (fun _ => ?_) (fun j hj => ?_)
                                        · rw [uz_same, hn, show (3 * o + 0).toNat = (3 * o).toNat by omega]
                                        · rw [uz_ne _ _ (by omega)]; exact hj0 j hj)
                                 · subst u
                                   first
                                     | (exfalso; omega)
                                     | (refine ih (i + 1) _ _ 2 0 o r T Gl _ (by omega) (by rw [ei, b4]; rfl) rfl (fun _ => hn) (fun _ => hto (by decide)) hj0)
                                 · subst u
                                   first
                                     | (exfalso; omega)
                                     | (refine ih (i + 1) _ _ 0 0 (o + 1) r T _ _ (by omega) (by rw [ei, b4]; rfl) rfl (fun z => by omega) (fun z => by omega) (fun j hj => ?_)
                                        rcases (by omega : (j : Int) < o ∨ j = o.toNat) with z | z
                                        · rw [uz_ne _ _ (by omega)]; exact hj0 j z
                                        · rw [z, uz_same, hn, hc rfl, e1, ← e0, show (3 * o).toNat + 2 = (3 * o + 2).toNat by omega]
                                          exact ⟨hto (by decide), rfl⟩))
                          · have hw2 : w = 2 := by
                              by_cases u : 48 ≤ tt i.toNat ∧ tt i.toNat ≤ 57
                              · exact (hst.1 u).2 (by omega)
                              · have := (hst.2 u)
                                omega
                            have hcb := hcol hw2
                            refine B_X6_readOrders_105 ?_
                            try dsimp only
                            try simp (disch := omega) only [pr_at, pr_off, u2_pr, u2_pr_o, hlen, ht]
                            have hw2 : w = 2 := by
                              by_cases u : 48 ≤ tt i.toNat ∧ tt i.toNat ≤ 57
                              · exact (hst.1 u).2 (by omega)
                              · have := (hst.2 u)
                                omega
                            have hcb := hcol hw2
                            first
                              | (exfalso; omega)
                              | exact absurd True.intro (by assumption)
                              | (refine ⟨sx0, _, hRT.2.2, ?_⟩
                                 refine ⟨by (refine ⟨?_, ?_⟩ <;> omega), ?_⟩
                                 refine ⟨by (refine ⟨?_, ?_⟩ <;> omega), ?_⟩
                                 refine ⟨_, sx3, ⟨by omega, by omega⟩, ?_⟩
                                 try simp (disch := omega) only [pr_at, pr_off, u2_pr, u2_pr_o, hlen, ht]
                                 refine ⟨by (refine ⟨?_, ?_⟩ <;> omega), ?_⟩
                                 refine B_X6_readOrders_122 ?_
                                 try dsimp only
                                 try simp (disch := omega) only [pr_at, pr_off, u2_pr, u2_pr_o, hlen, ht]
                                 refine ⟨by (refine ⟨?_, ?_⟩ <;> omega), ?_⟩
                                 first
                                   | exact absurd True.intro (by assumption)
                                   | (exfalso; omega)
                                   | (have hA := hst.1 (by omega)
                                      have hnum2 : 10 * num + tt i.toNat - 48 = nxD d (r (3 * o + w).toNat) (tt i.toNat - 48) := by
                                        unfold nxD
                                        split
                                        · rename_i u; rw [if_pos u] at hn; omega
                                        · rename_i u; rw [if_neg u] at hn; omega
                                      have hr1 : ∀ j : Nat, (j : Int) < 3 * o + w → uz r (3 * o + w).toNat (nxD d (r (3 * o + w).toNat) (tt i.toNat - 48)) j = r j := fun j hj => uz_ne _ _ (by omega)
                                      rcases (by omega : i + 1 = len ∨ i + 1 < len) with yy | yy
                                      · first
                                          | (exfalso; omega)
                                          | (have hw2 := hA.2 (by omega)
                                             subst hw2
                                             have hend := hK o _ T _ ⟨d + 1, by rw [← hA.1]; congr 1; omega⟩ (ro_last p2 hnum2 (hc rfl) (hto (by decide)) hj0)
                                             have hii : i + 1 = len := by omega
                                             rw [hii]
                                             exact L_roEnd hG hRT hlen hend)
                                      · first
                                          | (exfalso; omega)
                                          | (refine ih (i + 1) _ _ w (d + 1) o _ T Gl _ (by omega) (by rw [ei]; exact hA.1) ?_ (fun u => ?_) (fun u => ?_) (fun j hj => ?_)
                                             · rw [hnum2, if_neg (by omega)]; exact (uz_same _ _ _).symm
                                             · rw [hr1 _ (by omega)]; exact hc u
                                             · rw [hr1 _ (by omega)]; exact hto u
                                             · rw [hr1 _ (by omega), hr1 _ (by omega), hr1 _ (by omega)]; exact hj0 j hj))
                                   | (have hB := hst.2 (by omega)
                                      obtain ⟨b1, b2, b3, b4⟩ := hB
                                      rw [if_neg (show ¬ d = 0 by omega)] at hn
                                      rcases b2 with ⟨u, y⟩ | ⟨u, y⟩ | ⟨u, y⟩
                                      · subst u
                                        first
                                          | (exfalso; omega)
                                          | (refine ih (i + 1) _ _ 1 0 o r _ Gl _ (by omega) (by rw [ei, b4]; rfl) rfl (fun z => by omega) (fun _ => ?_) (fun j hj => ?_)
                                             · rw [uz_same, hn, show (3 * o + 0).toNat = (3 * o).toNat by omega]
                                             · rw [uz_ne _ _ (by omega)]; exact hj0 j hj)
                                      · subst u
                                        first
                                          | (exfalso; omega)
                                          | (refine ih (i + 1) _ _ 2 0 o r T Gl _ (by omega) (by rw [ei, b4]; rfl) rfl (fun _ => hn) (fun _ => hto (by decide)) hj0)
                                      · subst u
                                        first
                                          | (exfalso; omega)
                                          | (refine ih (i + 1) _ _ 0 0 (o + 1) r T _ _ (by omega) (by rw [ei, b4]; rfl) rfl (fun z => by omega) (fun z => by omega) (fun j hj => ?_)
                                             rcases (by omega : (j : Int) < o ∨ j = o.toNat) with z | z
                                             · rw [uz_ne _ _ (by omega)]; exact hj0 j z
                                             · rw [z, uz_same, hn, hc rfl, e1, ← e0, show (3 * o).toNat + 2 = (3 * o + 2).toNat by omega]
                                               exact ⟨hto (by decide), rfl⟩)))))
          · first
              | (exfalso; omega)
              | exact absurd True.intro (by assumption)
              | (refine ⟨sx0, _, hRT.2.1, ?_⟩
                 refine ⟨_, sx2, ⟨by omega, by omega⟩, ?_⟩
                 try simp (disch := omega) only [pr_at, pr_off, u2_pr, u2_pr_o, hlen, ht]
                 refine B_X6_readOrders_87 ?_
                 try dsimp only
                 try simp (disch := omega) only [pr_at, pr_off, u2_pr, u2_pr_o, hlen, ht]
                 refine ⟨fun c91_3 => ?_, fun c91_3 => ?_⟩
                 · refine B_X6_readOrders_105 ?_
                   try dsimp only
                   try simp (disch := omega) only [pr_at, pr_off, u2_pr, u2_pr_o, hlen, ht]
                   have hw2 : w = 2 := by
                     by_cases u : 48 ≤ tt i.toNat ∧ tt i.toNat ≤ 57
                     · exact (hst.1 u).2 (by omega)
                     · have := (hst.2 u)
                       omega
                   have hcb := hcol hw2
                   first
                     | (exfalso; omega)
                     | exact absurd True.intro (by assumption)
                     | (refine ⟨sx0, _, hRT.2.2, ?_⟩
                        refine ⟨by (refine ⟨?_, ?_⟩ <;> omega), ?_⟩
                        refine ⟨by (refine ⟨?_, ?_⟩ <;> omega), ?_⟩
                        refine ⟨_, sx3, ⟨by omega, by omega⟩, ?_⟩
                        try simp (disch := omega) only [pr_at, pr_off, u2_pr, u2_pr_o, hlen, ht]
                        refine ⟨by (refine ⟨?_, ?_⟩ <;> omega), ?_⟩
                        refine B_X6_readOrders_122 ?_
                        try dsimp only
                        try simp (disch := omega) only [pr_at, pr_off, u2_pr, u2_pr_o, hlen, ht]
                        refine ⟨by (refine ⟨?_, ?_⟩ <;> omega), ?_⟩
                        first
                          | exact absurd True.intro (by assumption)
                          | (exfalso; omega)
                          | (have hA := hst.1 (by omega)
                             have hnum2 : 10 * num + tt i.toNat - 48 = nxD d (r (3 * o + w).toNat) (tt i.toNat - 48) := by
                               unfold nxD
                               split
                               · rename_i u; rw [if_pos u] at hn; omega
                               · rename_i u; rw [if_neg u] at hn; omega
                             have hr1 : ∀ j : Nat, (j : Int) < 3 * o + w → uz r (3 * o + w).toNat (nxD d (r (3 * o + w).toNat) (tt i.toNat - 48)) j = r j := fun j hj => uz_ne _ _ (by omega)
                             rcases (by omega : i + 1 = len ∨ i + 1 < len) with yy | yy
                             · first
                                 | (exfalso; omega)
                                 | (have hw2 := hA.2 (by omega)
                                    subst hw2
                                    have hend := hK o _ T _ ⟨d + 1, by rw [← hA.1]; congr 1; omega⟩ (ro_last p2 hnum2 (hc rfl) (hto (by decide)) hj0)
                                    have hii : i + 1 = len := by omega
                                    rw [hii]
                                    exact L_roEnd hG hRT hlen hend)
                             · first
                                 | (exfalso; omega)
                                 | (refine ih (i + 1) _ _ w (d + 1) o _ T Gl _ (by omega) (by rw [ei]; exact hA.1) ?_ (fun u => ?_) (fun u => ?_) (fun j hj => ?_)
                                    · rw [hnum2, if_neg (by omega)]; exact (uz_same _ _ _).symm
                                    · rw [hr1 _ (by omega)]; exact hc u
                                    · rw [hr1 _ (by omega)]; exact hto u
                                    · rw [hr1 _ (by omega), hr1 _ (by omega), hr1 _ (by omega)]; exact hj0 j hj))
                          | (have hB := hst.2 (by omega)
                             obtain ⟨b1, b2, b3, b4⟩ := hB
                             rw [if_neg (show ¬ d = 0 by omega)] at hn
                             rcases b2 with ⟨u, y⟩ | ⟨u, y⟩ | ⟨u, y⟩
                             · subst u
                               first
                                 | (exfalso; omega)
                                 | (refine ih (i + 1) _ _ 1 0 o r _ Gl _ (by omega) (by rw [ei, b4]; rfl) rfl (fun z => by omega) (fun _ => ?_) (fun j hj => ?_)
                                    · rw [uz_same, hn, show (3 * o + 0).toNat = (3 * o).toNat by omega]
                                    · rw [uz_ne _ _ (by omega)]; exact hj0 j hj)
                             · subst u
                               first
                                 | (exfalso; omega)
                                 | (refine ih (i + 1) _ _ 2 0 o r T Gl _ (by omega) (by rw [ei, b4]; rfl) rfl (fun _ => hn) (fun _ => hto (by decide)) hj0)
                             · subst u
                               first
                                 | (exfalso; omega)
                                 | (refine ih (i + 1) _ _ 0 0 (o + 1) r T _ _ (by omega) (by rw [ei, b4]; rfl) rfl (fun z => by omega) (fun z => by omega) (fun j hj => ?_)
                                    rcases (by omega : (j : Int) < o ∨ j = o.toNat) with z | z
                                    · rw [uz_ne _ _ (by omega)]; exact hj0 j z
                                    · rw [z, uz_same, hn, hc rfl, e1, ← e0, show (3 * o).toNat + 2 = (3 * o + 2).toNat by omega]
                                      exact ⟨hto (by decide), rfl⟩)))
                 · first
                     | (exfalso; omega)
                     | exact absurd True.intro (by assumption)
                     | (refine ⟨sx0, ?_⟩
                        try simp (disch := omega) only [pr_at, pr_off, u2_pr, u2_pr_o, hlen, ht]
                        refine ⟨by (refine ⟨?_, ?_⟩ <;> omega), ?_⟩
                        refine ⟨fun c102_3 => ?_, fun c102_3 => ?_⟩
                        · refine B_X6_readOrders_122 ?_
                          try dsimp only
                          try simp (disch := omega) only [pr_at, pr_off, u2_pr, u2_pr_o, hlen, ht]
                          refine ⟨by (refine ⟨?_, ?_⟩ <;> omega), ?_⟩
                          first
                            | exact absurd True.intro (by assumption)
                            | (exfalso; omega)
                            | (have hA := hst.1 (by omega)
                               have hnum2 : 10 * num + tt i.toNat - 48 = nxD d (r (3 * o + w).toNat) (tt i.toNat - 48) := by
                                 unfold nxD
                                 split
                                 · rename_i u; rw [if_pos u] at hn; omega
                                 · rename_i u; rw [if_neg u] at hn; omega
                               have hr1 : ∀ j : Nat, (j : Int) < 3 * o + w → uz r (3 * o + w).toNat (nxD d (r (3 * o + w).toNat) (tt i.toNat - 48)) j = r j := fun j hj => uz_ne _ _ (by omega)
                               rcases (by omega : i + 1 = len ∨ i + 1 < len) with yy | yy
                               · first
                                   | (exfalso; omega)
                                   | (have hw2 := hA.2 (by omega)
                                      subst hw2
                                      have hend := hK o _ T _ ⟨d + 1, by rw [← hA.1]; congr 1; omega⟩ (ro_last p2 hnum2 (hc rfl) (hto (by decide)) hj0)
                                      have hii : i + 1 = len := by omega
                                      rw [hii]
                                      exact L_roEnd hG hRT hlen hend)
                               · first
                                   | (exfalso; omega)
                                   | (refine ih (i + 1) _ _ w (d + 1) o _ T Gl _ (by omega) (by rw [ei]; exact hA.1) ?_ (fun u => ?_) (fun u => ?_) (fun j hj => ?_)
                                      · rw [hnum2, if_neg (by omega)]; exact (uz_same _ _ _).symm
                                      · rw [hr1 _ (by omega)]; exact hc u
                                      · rw [hr1 _ (by omega)]; exact hto u
                                      · rw [hr1 _ (by omega), hr1 _ (by omega), hr1 _ (by omega)]; exact hj0 j hj))
                            | (have hB := hst.2 (by omega)
                               obtain ⟨b1, b2, b3, b4⟩ := hB
                               rw [if_neg (show ¬ d = 0 by omega)] at hn
                               rcases b2 with ⟨u, y⟩ | ⟨u, y⟩ | ⟨u, y⟩
                               · subst u
                                 first
                                   | (exfalso; omega)
                                   | (refine ih (i + 1) _ _ 1 0 o r _ Gl _ (by omega) (by rw [ei, b4]; rfl) rfl (fun z => by omega) (fun _ => ?_) (fun j hj => ?_)
                                      · rw [uz_same, hn, show (3 * o + 0).toNat = (3 * o).toNat by omega]
                                      · rw [uz_ne _ _ (by omega)]; exact hj0 j hj)
                               · subst u
                                 first
                                   | (exfalso; omega)
                                   | (refine ih (i + 1) _ _ 2 0 o r T Gl _ (by omega) (by rw [ei, b4]; rfl) rfl (fun _ => hn) (fun _ => hto (by decide)) hj0)
                               · subst u
                                 first
                                   | (exfalso; omega)
                                   | (refine ih (i + 1) _ _ 0 0 (o + 1) r T _ _ (by omega) (by rw [ei, b4]; rfl) rfl (fun z => by omega) (fun z => by omega) (fun j hj => ?_)
                                      rcases (by omega : (j : Int) < o ∨ j = o.toNat) with z | z
                                      · rw [uz_ne _ _ (by omega)]; exact hj0 j z
                                      · rw [z, uz_same, hn, hc rfl, e1, ← e0, show (3 * o).toNat + 2 = (3 * o + 2).toNat by omega]
                                        exact ⟨hto (by decide), rfl⟩))
                        · have hw2 : w = 2 := by
                            by_cases u : 48 ≤ tt i.toNat ∧ tt i.toNat ≤ 57
                            · exact (hst.1 u).2 (by omega)
                            · have := (hst.2 u)
                              omega
                          have hcb := hcol hw2
                          refine B_X6_readOrders_105 ?_
                          try dsimp only
                          try simp (disch := omega) only [pr_at, pr_off, u2_pr, u2_pr_o, hlen, ht]
                          have hw2 : w = 2 := by
                            by_cases u : 48 ≤ tt i.toNat ∧ tt i.toNat ≤ 57
                            · exact (hst.1 u).2 (by omega)
                            · have := (hst.2 u)
                              omega
                          have hcb := hcol hw2
                          first
                            | (exfalso; omega)
                            | exact absurd True.intro (by assumption)
                            | (refine ⟨sx0, _, hRT.2.2, ?_⟩
                               refine ⟨by (refine ⟨?_, ?_⟩ <;> omega), ?_⟩
                               refine ⟨by (refine ⟨?_, ?_⟩ <;> omega), ?_⟩
                               refine ⟨_, sx3, ⟨by omega, by omega⟩, ?_⟩
                               try simp (disch := omega) only [pr_at, pr_off, u2_pr, u2_pr_o, hlen, ht]
                               refine ⟨by (refine ⟨?_, ?_⟩ <;> omega), ?_⟩
                               refine B_X6_readOrders_122 ?_
                               try dsimp only
                               try simp (disch := omega) only [pr_at, pr_off, u2_pr, u2_pr_o, hlen, ht]
                               refine ⟨by (refine ⟨?_, ?_⟩ <;> omega), ?_⟩
                               first
                                 | exact absurd True.intro (by assumption)
                                 | (exfalso; omega)
                                 | (have hA := hst.1 (by omega)
                                    have hnum2 : 10 * num + tt i.toNat - 48 = nxD d (r (3 * o + w).toNat) (tt i.toNat - 48) := by
                                      unfold nxD
                                      split
                                      · rename_i u; rw [if_pos u] at hn; omega
                                      · rename_i u; rw [if_neg u] at hn; omega
                                    have hr1 : ∀ j : Nat, (j : Int) < 3 * o + w → uz r (3 * o + w).toNat (nxD d (r (3 * o + w).toNat) (tt i.toNat - 48)) j = r j := fun j hj => uz_ne _ _ (by omega)
                                    rcases (by omega : i + 1 = len ∨ i + 1 < len) with yy | yy
                                    · first
                                        | (exfalso; omega)
                                        | (have hw2 := hA.2 (by omega)
                                           subst hw2
                                           have hend := hK o _ T _ ⟨d + 1, by rw [← hA.1]; congr 1; omega⟩ (ro_last p2 hnum2 (hc rfl) (hto (by decide)) hj0)
                                           have hii : i + 1 = len := by omega
                                           rw [hii]
                                           exact L_roEnd hG hRT hlen hend)
                                    · first
                                        | (exfalso; omega)
                                        | (refine ih (i + 1) _ _ w (d + 1) o _ T Gl _ (by omega) (by rw [ei]; exact hA.1) ?_ (fun u => ?_) (fun u => ?_) (fun j hj => ?_)
                                           · rw [hnum2, if_neg (by omega)]; exact (uz_same _ _ _).symm
                                           · rw [hr1 _ (by omega)]; exact hc u
                                           · rw [hr1 _ (by omega)]; exact hto u
                                           · rw [hr1 _ (by omega), hr1 _ (by omega), hr1 _ (by omega)]; exact hj0 j hj))
                                 | (have hB := hst.2 (by omega)
                                    obtain ⟨b1, b2, b3, b4⟩ := hB
                                    rw [if_neg (show ¬ d = 0 by omega)] at hn
                                    rcases b2 with ⟨u, y⟩ | ⟨u, y⟩ | ⟨u, y⟩
                                    · subst u
                                      first
                                        | (exfalso; omega)
                                        | (refine ih (i + 1) _ _ 1 0 o r _ Gl _ (by omega) (by rw [ei, b4]; rfl) rfl (fun z => by omega) (fun _ => ?_) (fun j hj => ?_)
                                           · rw [uz_same, hn, show (3 * o + 0).toNat = (3 * o).toNat by omega]
                                           · rw [uz_ne _ _ (by omega)]; exact hj0 j hj)
                                    · subst u
                                      first
                                        | (exfalso; omega)
                                        | (refine ih (i + 1) _ _ 2 0 o r T Gl _ (by omega) (by rw [ei, b4]; rfl) rfl (fun _ => hn) (fun _ => hto (by decide)) hj0)
                                    · subst u
                                      first
                                        | (exfalso; omega)
                                        | (refine ih (i + 1) _ _ 0 0 (o + 1) r T _ _ (by omega) (by rw [ei, b4]; rfl) rfl (fun z => by omega) (fun z => by omega) (fun j hj => ?_)
                                           rcases (by omega : (j : Int) < o ∨ j = o.toNat) with z | z
                                           · rw [uz_ne _ _ (by omega)]; exact hj0 j z
                                           · rw [z, uz_same, hn, hc rfl, e1, ← e0, show (3 * o).toNat + 2 = (3 * o + 2).toNat by omega]
                                             exact ⟨hto (by decide), rfl⟩)))))
        · refine ⟨by (refine ⟨?_, ?_⟩ <;> omega), ?_⟩
          refine ⟨by (refine ⟨?_, ?_⟩ <;> omega), ?_⟩
          refine ⟨by (refine ⟨?_, ?_⟩ <;> omega), ?_⟩
          refine B_X6_readOrders_87 ?_
          try dsimp only
          try simp (disch := omega) only [pr_at, pr_off, u2_pr, u2_pr_o, hlen, ht]
          refine ⟨fun c91_2 => ?_, fun c91_2 => ?_⟩
          · refine B_X6_readOrders_105 ?_
            try dsimp only
            try simp (disch := omega) only [pr_at, pr_off, u2_pr, u2_pr_o, hlen, ht]
            have hw2 : w = 2 := by
              by_cases u : 48 ≤ tt i.toNat ∧ tt i.toNat ≤ 57
              · exact (hst.1 u).2 (by omega)
              · have := (hst.2 u)
                omega
            have hcb := hcol hw2
            first
              | (exfalso; omega)
              | exact absurd True.intro (by assumption)
              | (refine ⟨sx0, _, hRT.2.2, ?_⟩
                 refine ⟨by (refine ⟨?_, ?_⟩ <;> omega), ?_⟩
                 refine ⟨by (refine ⟨?_, ?_⟩ <;> omega), ?_⟩
                 refine ⟨_, sx3, ⟨by omega, by omega⟩, ?_⟩
                 try simp (disch := omega) only [pr_at, pr_off, u2_pr, u2_pr_o, hlen, ht]
                 refine ⟨by (refine ⟨?_, ?_⟩ <;> omega), ?_⟩
                 refine B_X6_readOrders_122 ?_
                 try dsimp only
                 try simp (disch := omega) only [pr_at, pr_off, u2_pr, u2_pr_o, hlen, ht]
                 refine ⟨by (refine ⟨?_, ?_⟩ <;> omega), ?_⟩
                 first
                   | exact absurd True.intro (by assumption)
                   | (exfalso; omega)
                   | (have hA := hst.1 (by omega)
                      have hnum2 : 10 * num + tt i.toNat - 48 = nxD d (r (3 * o + w).toNat) (tt i.toNat - 48) := by
                        unfold nxD
                        split
                        · rename_i u; rw [if_pos u] at hn; omega
                        · rename_i u; rw [if_neg u] at hn; omega
                      have hr1 : ∀ j : Nat, (j : Int) < 3 * o + w → uz r (3 * o + w).toNat (nxD d (r (3 * o + w).toNat) (tt i.toNat - 48)) j = r j := fun j hj => uz_ne _ _ (by omega)
                      rcases (by omega : i + 1 = len ∨ i + 1 < len) with yy | yy
                      · first
                          | (exfalso; omega)
                          | (have hw2 := hA.2 (by omega)
                             subst hw2
                             have hend := hK o _ T _ ⟨d + 1, by rw [← hA.1]; congr 1; omega⟩ (ro_last p2 hnum2 (hc rfl) (hto (by decide)) hj0)
                             have hii : i + 1 = len := by omega
                             rw [hii]
                             exact L_roEnd hG hRT hlen hend)
                      · first
                          | (exfalso; omega)
                          | (refine ih (i + 1) _ _ w (d + 1) o _ T Gl _ (by omega) (by rw [ei]; exact hA.1) ?_ (fun u => ?_) (fun u => ?_) (fun j hj => ?_)
                             · rw [hnum2, if_neg (by omega)]; exact (uz_same _ _ _).symm
                             · rw [hr1 _ (by omega)]; exact hc u
                             · rw [hr1 _ (by omega)]; exact hto u
                             · rw [hr1 _ (by omega), hr1 _ (by omega), hr1 _ (by omega)]; exact hj0 j hj))
                   | (have hB := hst.2 (by omega)
                      obtain ⟨b1, b2, b3, b4⟩ := hB
                      rw [if_neg (show ¬ d = 0 by omega)] at hn
                      rcases b2 with ⟨u, y⟩ | ⟨u, y⟩ | ⟨u, y⟩
                      · subst u
                        first
                          | (exfalso; omega)
                          | (refine ih (i + 1) _ _ 1 0 o r _ Gl _ (by omega) (by rw [ei, b4]; rfl) rfl (fun z => by omega) (fun _ => ?_) (fun j hj => ?_)
                             · rw [uz_same, hn, show (3 * o + 0).toNat = (3 * o).toNat by omega]
                             · rw [uz_ne _ _ (by omega)]; exact hj0 j hj)
                      · subst u
                        first
                          | (exfalso; omega)
                          | (refine ih (i + 1) _ _ 2 0 o r T Gl _ (by omega) (by rw [ei, b4]; rfl) rfl (fun _ => hn) (fun _ => hto (by decide)) hj0)
                      · subst u
                        first
                          | (exfalso; omega)
                          | (refine ih (i + 1) _ _ 0 0 (o + 1) r T _ _ (by omega) (by rw [ei, b4]; rfl) rfl (fun z => by omega) (fun z => by omega) (fun j hj => ?_)
                             rcases (by omega : (j : Int) < o ∨ j = o.toNat) with z | z
                             · rw [uz_ne _ _ (by omega)]; exact hj0 j z
                             · rw [z, uz_same, hn, hc rfl, e1, ← e0, show (3 * o).toNat + 2 = (3 * o + 2).toNat by omega]
                               exact ⟨hto (by decide), rfl⟩)))
          · first
              | (exfalso; omega)
              | exact absurd True.intro (by assumption)
              | (refine ⟨sx0, ?_⟩
                 try simp (disch := omega) only [pr_at, pr_off, u2_pr, u2_pr_o, hlen, ht]
                 refine ⟨by (refine ⟨?_, ?_⟩ <;> omega), ?_⟩
                 refine ⟨fun c102_2 => ?_, fun c102_2 => ?_⟩
                 · refine B_X6_readOrders_122 ?_
                   try dsimp only
                   try simp (disch := omega) only [pr_at, pr_off, u2_pr, u2_pr_o, hlen, ht]
                   refine ⟨by (refine ⟨?_, ?_⟩ <;> omega), ?_⟩
                   first
                     | exact absurd True.intro (by assumption)
                     | (exfalso; omega)
                     | (have hA := hst.1 (by omega)
                        have hnum2 : 10 * num + tt i.toNat - 48 = nxD d (r (3 * o + w).toNat) (tt i.toNat - 48) := by
                          unfold nxD
                          split
                          · rename_i u; rw [if_pos u] at hn; omega
                          · rename_i u; rw [if_neg u] at hn; omega
                        have hr1 : ∀ j : Nat, (j : Int) < 3 * o + w → uz r (3 * o + w).toNat (nxD d (r (3 * o + w).toNat) (tt i.toNat - 48)) j = r j := fun j hj => uz_ne _ _ (by omega)
                        rcases (by omega : i + 1 = len ∨ i + 1 < len) with yy | yy
                        · first
                            | (exfalso; omega)
                            | (have hw2 := hA.2 (by omega)
                               subst hw2
                               have hend := hK o _ T _ ⟨d + 1, by rw [← hA.1]; congr 1; omega⟩ (ro_last p2 hnum2 (hc rfl) (hto (by decide)) hj0)
                               have hii : i + 1 = len := by omega
                               rw [hii]
                               exact L_roEnd hG hRT hlen hend)
                        · first
                            | (exfalso; omega)
                            | (refine ih (i + 1) _ _ w (d + 1) o _ T Gl _ (by omega) (by rw [ei]; exact hA.1) ?_ (fun u => ?_) (fun u => ?_) (fun j hj => ?_)
                               · rw [hnum2, if_neg (by omega)]; exact (uz_same _ _ _).symm
                               · rw [hr1 _ (by omega)]; exact hc u
                               · rw [hr1 _ (by omega)]; exact hto u
                               · rw [hr1 _ (by omega), hr1 _ (by omega), hr1 _ (by omega)]; exact hj0 j hj))
                     | (have hB := hst.2 (by omega)
                        obtain ⟨b1, b2, b3, b4⟩ := hB
                        rw [if_neg (show ¬ d = 0 by omega)] at hn
                        rcases b2 with ⟨u, y⟩ | ⟨u, y⟩ | ⟨u, y⟩
                        · subst u
                          first
                            | (exfalso; omega)
                            | (refine ih (i + 1) _ _ 1 0 o r _ Gl _ (by omega) (by rw [ei, b4]; rfl) rfl (fun z => by omega) (fun _ => ?_) (fun j hj => ?_)
                               · rw [uz_same, hn, show (3 * o + 0).toNat = (3 * o).toNat by omega]
                               · rw [uz_ne _ _ (by omega)]; exact hj0 j hj)
                        · subst u
                          first
                            | (exfalso; omega)
                            | (refine ih (i + 1) _ _ 2 0 o r T Gl _ (by omega) (by rw [ei, b4]; rfl) rfl (fun _ => hn) (fun _ => hto (by decide)) hj0)
                        · subst u
                          first
                            | (exfalso; omega)
                            | (refine ih (i + 1) _ _ 0 0 (o + 1) r T _ _ (by omega) (by rw [ei, b4]; rfl) rfl (fun z => by omega) (fun z => by omega) (fun j hj => ?_)
                               rcases (by omega : (j : Int) < o ∨ j = o.toNat) with z | z
                               · rw [uz_ne _ _ (by omega)]; exact hj0 j z
                               · rw [z, uz_same, hn, hc rfl, e1, ← e0, show (3 * o).toNat + 2 = (3 * o + 2).toNat by omega]
                                 exact ⟨hto (by decide), rfl⟩))
                 · have hw2 : w = 2 := by
                     by_cases u : 48 ≤ tt i.toNat ∧ tt i.toNat ≤ 57
                     · exact (hst.1 u).2 (by omega)
                     · have := (hst.2 u)
                       omega
                   have hcb := hcol hw2
                   refine B_X6_readOrders_105 ?_
                   try dsimp only
                   try simp (disch := omega) only [pr_at, pr_off, u2_pr, u2_pr_o, hlen, ht]
                   have hw2 : w = 2 := by
                     by_cases u : 48 ≤ tt i.toNat ∧ tt i.toNat ≤ 57
                     · exact (hst.1 u).2 (by omega)
                     · have := (hst.2 u)
                       omega
                   have hcb := hcol hw2
                   first
                     | (exfalso; omega)
                     | exact absurd True.intro (by assumption)
                     | (refine ⟨sx0, _, hRT.2.2, ?_⟩
                        refine ⟨by (refine ⟨?_, ?_⟩ <;> omega), ?_⟩
                        refine ⟨by (refine ⟨?_, ?_⟩ <;> omega), ?_⟩
                        refine ⟨_, sx3, ⟨by omega, by omega⟩, ?_⟩
                        try simp (disch := omega) only [pr_at, pr_off, u2_pr, u2_pr_o, hlen, ht]
                        refine ⟨by (refine ⟨?_, ?_⟩ <;> omega), ?_⟩
                        refine B_X6_readOrders_122 ?_
                        try dsimp only
                        try simp (disch := omega) only [pr_at, pr_off, u2_pr, u2_pr_o, hlen, ht]
                        refine ⟨by (refine ⟨?_, ?_⟩ <;> omega), ?_⟩
                        first
                          | exact absurd True.intro (by assumption)
                          | (exfalso; omega)
                          | (have hA := hst.1 (by omega)
                             have hnum2 : 10 * num + tt i.toNat - 48 = nxD d (r (3 * o + w).toNat) (tt i.toNat - 48) := by
                               unfold nxD
                               split
                               · rename_i u; rw [if_pos u] at hn; omega
                               · rename_i u; rw [if_neg u] at hn; omega
                             have hr1 : ∀ j : Nat, (j : Int) < 3 * o + w → uz r (3 * o + w).toNat (nxD d (r (3 * o + w).toNat) (tt i.toNat - 48)) j = r j := fun j hj => uz_ne _ _ (by omega)
                             rcases (by omega : i + 1 = len ∨ i + 1 < len) with yy | yy
                             · first
                                 | (exfalso; omega)
                                 | (have hw2 := hA.2 (by omega)
                                    subst hw2
                                    have hend := hK o _ T _ ⟨d + 1, by rw [← hA.1]; congr 1; omega⟩ (ro_last p2 hnum2 (hc rfl) (hto (by decide)) hj0)
                                    have hii : i + 1 = len := by omega
                                    rw [hii]
                                    exact L_roEnd hG hRT hlen hend)
                             · first
                                 | (exfalso; omega)
                                 | (refine ih (i + 1) _ _ w (d + 1) o _ T Gl _ (by omega) (by rw [ei]; exact hA.1) ?_ (fun u => ?_) (fun u => ?_) (fun j hj => ?_)
                                    · rw [hnum2, if_neg (by omega)]; exact (uz_same _ _ _).symm
                                    · rw [hr1 _ (by omega)]; exact hc u
                                    · rw [hr1 _ (by omega)]; exact hto u
                                    · rw [hr1 _ (by omega), hr1 _ (by omega), hr1 _ (by omega)]; exact hj0 j hj))
                          | (have hB := hst.2 (by omega)
                             obtain ⟨b1, b2, b3, b4⟩ := hB
                             rw [if_neg (show ¬ d = 0 by omega)] at hn
                             rcases b2 with ⟨u, y⟩ | ⟨u, y⟩ | ⟨u, y⟩
                             · subst u
                               first
                                 | (exfalso; omega)
                                 | (refine ih (i + 1) _ _ 1 0 o r _ Gl _ (by omega) (by rw [ei, b4]; rfl) rfl (fun z => by omega) (fun _ => ?_) (fun j hj => ?_)
                                    · rw [uz_same, hn, show (3 * o + 0).toNat = (3 * o).toNat by omega]
                                    · rw [uz_ne _ _ (by omega)]; exact hj0 j hj)
                             · subst u
                               first
                                 | (exfalso; omega)
                                 | (refine ih (i + 1) _ _ 2 0 o r T Gl _ (by omega) (by rw [ei, b4]; rfl) rfl (fun _ => hn) (fun _ => hto (by decide)) hj0)
                             · subst u
                               first
                                 | (exfalso; omega)
                                 | (refine ih (i + 1) _ _ 0 0 (o + 1) r T _ _ (by omega) (by rw [ei, b4]; rfl) rfl (fun z => by omega) (fun z => by omega) (fun j hj => ?_)
                                    rcases (by omega : (j : Int) < o ∨ j = o.toNat) with z | z
                                    · rw [uz_ne _ _ (by omega)]; exact hj0 j z
                                    · rw [z, uz_same, hn, hc rfl, e1, ← e0, show (3 * o).toNat + 2 = (3 * o + 2).toNat by omega]
                                      exact ⟨hto (by decide), rfl⟩))))
theorem D_readOrders {G : amG} {I : Nat → Nat → Int} {R : Nat → Nat → Option Nat} {L : Nat → Nat → Int64} {x c t : Nat} {Q : amR → amH → Prop} (hG : amG0 G) (hRT : RT R) {len : Int} {tt r0 : Row} {sf : TS} (hlen : I 346 1 = len) (htt : I 347 = tt) (hl : 0 ≤ len ∧ len ≤ 60) (hT : ∀ k : Nat, k < 60 → 0 ≤ I 347 k ∧ I 347 k ≤ 1000) (hf : pS tt r0 len.toNat = some sf) (hf2 : sf.1 = 2) (hfd : 0 < sf.2.1) (h0 : 0 < len) (hQ : ∀ T Gl : Row, (∀ j : Nat, (j : Int) ≤ sf.2.2.1 → T j = sf.2.2.2 (3 * j) ∧ Gl j = 12 * sf.2.2.2 (3 * j + 2) + sf.2.2.2 (3 * j + 1)) → Q (Sum.inl (some (aI (sf.2.2.1 + 1)))) (pr (pr I 348 T) 349 Gl, R, L, SH, x, 0, 0)) : CT G sX6_readOrders [aR (some 346)] (I, R, L, SH, x, c, t) Q := by
  refine CT_of ok_X6_readOrders hG (Nat.le_of_ble_eq_true rfl) ?_
  show X G mX6_readOrders Q 0 _ [] (I, R, L, SH, x, 0, 0)
  refine B_X6_readOrders_0 ?_
  try dsimp only
  have e0 : I = pr (pr I 348 (I 348)) 349 (I 349) := by
    funext c
    by_cases h : c = 349
    · rw [h, pr_at]
    · rw [pr_off _ _ h]
      exact (congrFun (pr_self I 348) c).symm
  have e := L_ro (L := L) (x := x) hG hRT hlen htt hl hT hf hf2 hfd (fun o r T Gl hex hj => by
    obtain ⟨d, hd⟩ := hex
    rw [hf] at hd
    have hd := Option.some.inj hd
    have e1 : sf.2.2.1 = o := by rw [hd]
    have e2 : sf.2.2.2 = r := by rw [hd]
    have e := hQ T Gl (fun j hj2 => by rw [e2]; exact hj j (by omega))
    rw [e1] at e
    exact e) 61 0 0 0 0 0 0 r0 (I 348) (I 349) none (by omega) rfl rfl (fun u => by omega) (fun u => by omega) (fun j hj => by omega)
  rw [← e0] at e
  exact e
