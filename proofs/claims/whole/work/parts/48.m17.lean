/-! ===== the model: sums ===== -/
def sumN (f : Nat → Int) : Nat → Int
  | 0 => 0
  | n + 1 => sumN f n + f n
theorem sumN_s (f : Nat → Int) (n : Nat) : sumN f (n + 1) = sumN f n + f n := rfl
theorem sumN_b {f : Nat → Int} {B : Int} : ∀ n : Nat, (∀ k : Nat, k < n → 0 ≤ f k ∧ f k ≤ B) → 0 ≤ sumN f n ∧ sumN f n ≤ B * n := by
  intro n
  induction n with
  | zero =>
    intro _
    show 0 ≤ (0 : Int) ∧ (0 : Int) ≤ B * ((0 : Nat) : Int)
    omega
  | succ n ih =>
    intro h
    have h1 := ih (fun k hk => h k (by omega))
    have h2 := h n (by omega)
    rw [sumN_s]
    have e : B * ((n + 1 : Nat) : Int) = B * (n : Int) + B := by rw [Int.natCast_add, Int.mul_add]; omega
    omega
theorem sumN_congr {f h : Nat → Int} : ∀ n : Nat, (∀ k : Nat, k < n → f k = h k) → sumN f n = sumN h n := by
  intro n
  induction n with
  | zero => intro _; rfl
  | succ n ih =>
    intro e
    rw [sumN_s, sumN_s, ih (fun k hk => e k (by omega)), e n (by omega)]
/-- how many orders are under way to a troop -/
def ofN (z : Row) (t : Int) : Nat → Int := sumN (fun k => if z (196 + 4 * k + 1) = t then 1 else 0)
/-- how many troops are in a state -/
def inN (z : Row) (s : Int) : Nat → Int := sumN (fun k => if tf z k 4 = s then 1 else 0)
/-- the strength of a side -/
def stN (z : Row) (s : Int) : Nat → Int := sumN (fun k => if tf z k 0 = s then tf z k 2 else 0)
/-- how many orders come ahead of one -/
def rkN (z : Row) (o : Nat) : Nat → Int := sumN (fun k => if z (196 + 4 * k + 3) < z (196 + 4 * o + 3) ∨ (z (196 + 4 * k + 3) = z (196 + 4 * o + 3) ∧ k < o) then 1 else 0)
theorem ite01 {p : Prop} (d : Decidable p) : 0 ≤ (if p then (1 : Int) else 0) ∧ (if p then (1 : Int) else 0) ≤ 1 := by
  split <;> omega
theorem ofN_b (z : Row) (t : Int) (n : Nat) : 0 ≤ ofN z t n ∧ ofN z t n ≤ 1 * n := sumN_b n (fun _ _ => ite01 _)
theorem inN_b (z : Row) (t : Int) (n : Nat) : 0 ≤ inN z t n ∧ inN z t n ≤ 1 * n := sumN_b n (fun _ _ => ite01 _)
theorem rkN_b (z : Row) (o n : Nat) : 0 ≤ rkN z o n ∧ rkN z o n ≤ 1 * n := sumN_b n (fun _ _ => ite01 _)
theorem stN_b {z : Row} (ht : wfT z) (s : Int) (n : Nat) (hn : (n : Int) ≤ z 98) : 0 ≤ stN z s n ∧ stN z s n ≤ 20 * n := sumN_b n (fun k hk => by
  have := ht k (by omega)
  unfold wfT1 at this
  show 0 ≤ (if tf z k 0 = s then tf z k 2 else 0) ∧ (if tf z k 0 = s then tf z k 2 else 0) ≤ 20
  split <;> omega)
theorem L_ordersFor {G : amG} {I : Nat → Nat → Int} {R : Nat → Nat → Option Nat} {L : Nat → Nat → Int64} {x : Nat} {Q : amR → amH → Prop} (hG : amG0 G) (hR : RM R) {v : Int} (hn : 0 ≤ I 362 195 ∧ I 362 195 ≤ 30) (hQ : ∀ r : Int, r = ofN (I 362) v (I 362 195).toNat → Q (Sum.inl (some (aI r))) (I, R, L, SH, x, 0, 0)) :
    ∀ (n : Nat) (j a : Int), 0 ≤ j → I 362 195 - j < n ∧ j ≤ I 362 195 → a = ofN (I 362) v j.toNat → X G mX10_ordersFor Q 4 [some (aR (some 361)), some (aI v), some (aI a), some (aI j)] [] (I, R, L, SH, x, 0, 0) := by
  intro n
  induction n with
  | zero =>
    intros
    exfalso; omega
  | succ n ih =>
    intro j a h0 h1 ha
    have hb := ofN_b (I 362) v j.toNat
    have hs : ofN (I 362) v (j.toNat + 1) = ofN (I 362) v j.toNat + (if I 362 (196 + 4 * j.toNat + 1) = v then 1 else 0) := rfl
    have e1 : (196 + 4 * j + 1).toNat = 196 + 4 * j.toNat + 1 := by omega
    rw [← e1] at hs
    refine B_X10_ordersFor_4 ?_
    try dsimp only
    refine ⟨sh361, _, hR.z, ?_⟩
    refine ⟨_, sh362, ⟨by omega, by omega⟩, ?_⟩
    refine ⟨fun c13_0 => ?_, fun c13_0 => ?_⟩
    · refine B_X10_ordersFor_48 ?_
      try dsimp only
      refine hQ _ ?_
      rw [ha]
      rw [show j.toNat = (I 362 195).toNat by omega]
    · refine ⟨sh361, _, hR.z, ?_⟩
      refine ⟨by (refine ⟨?_, ?_⟩ <;> omega), ?_⟩
      refine ⟨by (refine ⟨?_, ?_⟩ <;> omega), ?_⟩
      refine ⟨by (refine ⟨?_, ?_⟩ <;> omega), ?_⟩
      refine ⟨_, sh362, ⟨by omega, by omega⟩, ?_⟩
      refine ⟨fun c32_0 => ?_, fun c32_0 => ?_⟩
      · refine B_X10_ordersFor_39 ?_
        try dsimp only
        refine B_X10_ordersFor_40 ?_
        try dsimp only
        refine ⟨by (refine ⟨?_, ?_⟩ <;> omega), ?_⟩
        refine ⟨by (refine ⟨?_, ?_⟩ <;> omega), ?_⟩
        refine ih (j + 1) _ (by omega) (by omega) ?_
        rw [show (j + 1).toNat = j.toNat + 1 by omega, hs]
        first
          | (rw [if_pos (by omega)]; omega)
          | (rw [if_neg (by omega)]; omega)
      · refine B_X10_ordersFor_40 ?_
        try dsimp only
        refine ⟨by (refine ⟨?_, ?_⟩ <;> omega), ?_⟩
        refine ⟨by (refine ⟨?_, ?_⟩ <;> omega), ?_⟩
        refine ih (j + 1) _ (by omega) (by omega) ?_
        rw [show (j + 1).toNat = j.toNat + 1 by omega, hs]
        first
          | (rw [if_pos (by omega)]; omega)
          | (rw [if_neg (by omega)]; omega)
theorem C_ordersFor {G : amG} {I : Nat → Nat → Int} {R : Nat → Nat → Option Nat} {L : Nat → Nat → Int64} {x c t : Nat} {Q : amR → amH → Prop} (hG : amG0 G) (hR : RM R) {v : Int} (hn : 0 ≤ I 362 195 ∧ I 362 195 ≤ 30) (hQ : ∀ r : Int, r = ofN (I 362) v (I 362 195).toNat → Q (Sum.inl (some (aI r))) (I, R, L, SH, x, 0, 0)) : CT G sX10_ordersFor [aR (some 361), aI v] (I, R, L, SH, x, c, t) Q := by
  refine CT_of ok_X10_ordersFor hG (Nat.le_of_ble_eq_true rfl) ?_
  show X G mX10_ordersFor Q 0 _ [] (I, R, L, SH, x, 0, 0)
  refine B_X10_ordersFor_0 ?_
  try dsimp only
  exact L_ordersFor hG hR hn hQ 31 0 0 (by decide) (by omega) rfl
theorem L_inState {G : amG} {I : Nat → Nat → Int} {R : Nat → Nat → Option Nat} {L : Nat → Nat → Int64} {x : Nat} {Q : amR → amH → Prop} (hG : amG0 G) (hR : RM R) {v : Int} (hn : wfN (I 362)) (hQ : ∀ r : Int, r = inN (I 362) v (I 362 98).toNat → Q (Sum.inl (some (aI r))) (I, R, L, SH, x, 0, 0)) :
    ∀ (n : Nat) (j a : Int), 0 ≤ j → I 362 98 - j < n ∧ j ≤ I 362 98 → a = inN (I 362) v j.toNat → X G mX10_inState Q 4 [some (aR (some 361)), some (aI v), some (aI a), some (aI j)] [] (I, R, L, SH, x, 0, 0) := by
  intro n
  induction n with
  | zero =>
    intros
    exfalso; omega
  | succ n ih =>
    intro j a h0 h1 ha
    have hn2 := hn.2
    have hb := inN_b (I 362) v j.toNat
    have hs : inN (I 362) v (j.toNat + 1) = inN (I 362) v j.toNat + (if tf (I 362) j.toNat 4 = v then 1 else 0) := rfl
    refine B_X10_inState_4 ?_
    try dsimp only
    refine ⟨sh361, _, hR.z, ?_⟩
    refine ⟨_, sh362, ⟨by omega, by omega⟩, ?_⟩
    refine ⟨fun c12_0 => ?_, fun c12_0 => ?_⟩
    · refine B_X10_inState_39 ?_
      try dsimp only
      refine hQ _ ?_
      rw [ha]
      rw [show j.toNat = (I 362 98).toNat by omega]
    · refine ⟨⟨Nat.zero_le _, Nat.zero_le _, Nat.le_of_ble_eq_true rfl⟩, sh361, ?_⟩
      refine C_of hG hR (by omega) (by decide) (fun r hr => ?_)
      have hr : r = tf (I 362) j.toNat 4 := hr
      refine af_I0 rfl rfl (by decide) ?_
      try dsimp only
      refine B_X10_inState_22 ?_
      try dsimp only
      refine ⟨fun c23_1 => ?_, fun c23_1 => ?_⟩
      · refine B_X10_inState_30 ?_
        try dsimp only
        refine B_X10_inState_31 ?_
        try dsimp only
        refine ⟨by (refine ⟨?_, ?_⟩ <;> omega), ?_⟩
        refine ⟨by (refine ⟨?_, ?_⟩ <;> omega), ?_⟩
        refine ih (j + 1) _ (by omega) (by omega) ?_
        rw [show (j + 1).toNat = j.toNat + 1 by omega, hs]
        first
          | (rw [if_pos (by omega)]; omega)
          | (rw [if_neg (by omega)]; omega)
      · refine B_X10_inState_31 ?_
        try dsimp only
        refine ⟨by (refine ⟨?_, ?_⟩ <;> omega), ?_⟩
        refine ⟨by (refine ⟨?_, ?_⟩ <;> omega), ?_⟩
        refine ih (j + 1) _ (by omega) (by omega) ?_
        rw [show (j + 1).toNat = j.toNat + 1 by omega, hs]
        first
          | (rw [if_pos (by omega)]; omega)
          | (rw [if_neg (by omega)]; omega)
theorem C_inState {G : amG} {I : Nat → Nat → Int} {R : Nat → Nat → Option Nat} {L : Nat → Nat → Int64} {x c t : Nat} {Q : amR → amH → Prop} (hG : amG0 G) (hR : RM R) {v : Int} (hn : wfN (I 362)) (hQ : ∀ r : Int, r = inN (I 362) v (I 362 98).toNat → Q (Sum.inl (some (aI r))) (I, R, L, SH, x, 0, 0)) : CT G sX10_inState [aR (some 361), aI v] (I, R, L, SH, x, c, t) Q := by
  refine CT_of ok_X10_inState hG (Nat.le_of_ble_eq_true rfl) ?_
  show X G mX10_inState Q 0 _ [] (I, R, L, SH, x, 0, 0)
  refine B_X10_inState_0 ?_
  try dsimp only
  have hn1 := hn.1
  have hn2 := hn.2
  exact L_inState hG hR hn hQ 13 0 0 (by decide) (by omega) rfl
theorem L_strengthOf {G : amG} {I : Nat → Nat → Int} {R : Nat → Nat → Option Nat} {L : Nat → Nat → Int64} {x : Nat} {Q : amR → amH → Prop} (hG : amG0 G) (hR : RM R) {v : Int} (hn : wfN (I 362)) (ht : wfT (I 362)) (hQ : ∀ r : Int, r = stN (I 362) v (I 362 98).toNat → Q (Sum.inl (some (aI r))) (I, R, L, SH, x, 0, 0)) :
    ∀ (n : Nat) (j a : Int), 0 ≤ j → I 362 98 - j < n ∧ j ≤ I 362 98 → a = stN (I 362) v j.toNat → X G mX10_strengthOf Q 4 [some (aR (some 361)), some (aI v), some (aI a), some (aI j)] [] (I, R, L, SH, x, 0, 0) := by
  intro n
  induction n with
  | zero =>
    intros
    exfalso; omega
  | succ n ih =>
    intro j a h0 h1 ha
    have hn2 := hn.2
    have hb := stN_b ht v j.toNat (by omega)
    have hT : j < I 362 98 → 0 ≤ tf (I 362) j.toNat 2 ∧ tf (I 362) j.toNat 2 ≤ 20 := fun q => (ht j.toNat (by omega)).2.2.1
    have hs : stN (I 362) v (j.toNat + 1) = stN (I 362) v j.toNat + (if tf (I 362) j.toNat 0 = v then tf (I 362) j.toNat 2 else 0) := rfl
    refine B_X10_strengthOf_4 ?_
    try dsimp only
    refine ⟨sh361, _, hR.z, ?_⟩
    refine ⟨_, sh362, ⟨by omega, by omega⟩, ?_⟩
    refine ⟨fun c12_0 => ?_, fun c12_0 => ?_⟩
    · refine B_X10_strengthOf_44 ?_
      try dsimp only
      refine hQ _ ?_
      rw [ha]
      rw [show j.toNat = (I 362 98).toNat by omega]
    · refine ⟨⟨Nat.zero_le _, Nat.zero_le _, Nat.le_of_ble_eq_true rfl⟩, sh361, ?_⟩
      refine C_of hG hR (by omega) (by decide) (fun r hr => ?_)
      have hr : r = tf (I 362) j.toNat 0 := hr
      refine af_I0 rfl rfl (by decide) ?_
      try dsimp only
      refine B_X10_strengthOf_22 ?_
      try dsimp only
      refine ⟨fun c23_1 => ?_, fun c23_1 => ?_⟩
      · refine B_X10_strengthOf_35 ?_
        try dsimp only
        refine B_X10_strengthOf_36 ?_
        try dsimp only
        refine ⟨by (refine ⟨?_, ?_⟩ <;> omega), ?_⟩
        refine ⟨by (refine ⟨?_, ?_⟩ <;> omega), ?_⟩
        refine ih (j + 1) _ (by omega) (by omega) ?_
        rw [show (j + 1).toNat = j.toNat + 1 by omega, hs]
        first
          | (rw [if_pos (by omega)]; omega)
          | (rw [if_neg (by omega)]; omega)
      · refine ⟨⟨Nat.zero_le _, Nat.zero_le _, Nat.le_of_ble_eq_true rfl⟩, sh361, ?_⟩
        refine C_of hG hR (by omega) (by decide) (fun r2 hr2 => ?_)
        have hr2 : r2 = tf (I 362) j.toNat 2 := hr2
        have hT2 := hT (by omega)
        refine af_I0 rfl rfl (by decide) ?_
        try dsimp only
        refine B_X10_strengthOf_32 ?_
        try dsimp only
        refine B_X10_strengthOf_36 ?_
        try dsimp only
        refine ⟨by (refine ⟨?_, ?_⟩ <;> omega), ?_⟩
        refine ⟨by (refine ⟨?_, ?_⟩ <;> omega), ?_⟩
        refine ih (j + 1) _ (by omega) (by omega) ?_
        rw [show (j + 1).toNat = j.toNat + 1 by omega, hs]
        first
          | (rw [if_pos (by omega)]; omega)
          | (rw [if_neg (by omega)]; omega)
theorem C_strengthOf {G : amG} {I : Nat → Nat → Int} {R : Nat → Nat → Option Nat} {L : Nat → Nat → Int64} {x c t : Nat} {Q : amR → amH → Prop} (hG : amG0 G) (hR : RM R) {v : Int} (hn : wfN (I 362)) (ht : wfT (I 362)) (hQ : ∀ r : Int, r = stN (I 362) v (I 362 98).toNat → Q (Sum.inl (some (aI r))) (I, R, L, SH, x, 0, 0)) : CT G sX10_strengthOf [aR (some 361), aI v] (I, R, L, SH, x, c, t) Q := by
  refine CT_of ok_X10_strengthOf hG (Nat.le_of_ble_eq_true rfl) ?_
  show X G mX10_strengthOf Q 0 _ [] (I, R, L, SH, x, 0, 0)
  refine B_X10_strengthOf_0 ?_
  try dsimp only
  have hn1 := hn.1
  have hn2 := hn.2
  exact L_strengthOf hG hR hn ht hQ 13 0 0 (by decide) (by omega) rfl
theorem L_rank {G : amG} {I : Nat → Nat → Int} {R : Nat → Nat → Option Nat} {L : Nat → Nat → Int64} {x : Nat} {Q : amR → amH → Prop} (hG : amG0 G) (hR : RM R) {v : Int} (hn : 0 ≤ I 362 195 ∧ I 362 195 ≤ 30) (hd : ∀ k : Nat, (k : Int) < I 362 195 → 0 ≤ I 362 (196 + 4 * k + 3) ∧ I 362 (196 + 4 * k + 3) ≤ 1100) (hv : 0 ≤ v ∧ v < I 362 195) (hQ : ∀ r : Int, r = rkN (I 362) v.toNat (I 362 195).toNat → Q (Sum.inl (some (aI r))) (I, R, L, SH, x, 0, 0)) :
    ∀ (n : Nat) (j a : Int) (l4 : Option amV), 0 ≤ j → I 362 195 - j < n ∧ j ≤ I 362 195 → a = rkN (I 362) v.toNat j.toNat → X G mX10_rank Q 4 [some (aR (some 361)), some (aI v), some (aI a), some (aI j), l4] [] (I, R, L, SH, x, 0, 0) := by
  intro n
  induction n with
  | zero =>
    intros
    exfalso; omega
  | succ n ih =>
    intro j a l4 h0 h1 ha
    have hb := rkN_b (I 362) v.toNat j.toNat
    have hs : rkN (I 362) v.toNat (j.toNat + 1) = rkN (I 362) v.toNat j.toNat + (if I 362 (196 + 4 * j.toNat + 3) < I 362 (196 + 4 * v.toNat + 3) ∨ (I 362 (196 + 4 * j.toNat + 3) = I 362 (196 + 4 * v.toNat + 3) ∧ j.toNat < v.toNat) then 1 else 0) := rfl
    have e1 : (196 + 4 * j + 3).toNat = 196 + 4 * j.toNat + 3 := by omega
    have e2 : (196 + 4 * v + 3).toNat = 196 + 4 * v.toNat + 3 := by omega
    have d1 : j < I 362 195 → 0 ≤ I 362 (196 + 4 * j.toNat + 3) ∧ I 362 (196 + 4 * j.toNat + 3) ≤ 1100 := fun q => hd j.toNat (by omega)
    have d2 := hd v.toNat (by omega)
    rw [← e1] at hs d1
    rw [← e2] at hs d2
    refine B_X10_rank_4 ?_
    try dsimp only
    refine ⟨sh361, _, hR.z, ?_⟩
    refine ⟨_, sh362, ⟨by omega, by omega⟩, ?_⟩
    refine ⟨fun c13_0 => ?_, fun c13_0 => ?_⟩
    · refine B_X10_rank_76 ?_
      try dsimp only
      refine hQ _ ?_
      rw [ha]
      rw [show j.toNat = (I 362 195).toNat by omega]
    · have d3 := d1 (by omega)
      refine ⟨sh361, _, hR.z, ?_⟩
      refine ⟨by (refine ⟨?_, ?_⟩ <;> omega), ?_⟩
      refine ⟨by (refine ⟨?_, ?_⟩ <;> omega), ?_⟩
      refine ⟨by (refine ⟨?_, ?_⟩ <;> omega), ?_⟩
      refine ⟨_, sh362, ⟨by omega, by omega⟩, ?_⟩
      refine ⟨sh361, _, hR.z, ?_⟩
      refine ⟨by (refine ⟨?_, ?_⟩ <;> omega), ?_⟩
      refine ⟨by (refine ⟨?_, ?_⟩ <;> omega), ?_⟩
      refine ⟨by (refine ⟨?_, ?_⟩ <;> omega), ?_⟩
      refine ⟨_, sh362, ⟨by omega, by omega⟩, ?_⟩
      refine ⟨by (refine ⟨?_, ?_⟩ <;> omega), ?_⟩
      refine ⟨fun c50_0 => ?_, fun c50_0 => ?_⟩
      · refine B_X10_rank_63 ?_
        try dsimp only
        refine B_X10_rank_68 ?_
        try dsimp only
        refine ⟨by (refine ⟨?_, ?_⟩ <;> omega), ?_⟩
        refine ⟨by (refine ⟨?_, ?_⟩ <;> omega), ?_⟩
        refine ih (j + 1) _ _ (by omega) (by omega) ?_
        rw [show (j + 1).toNat = j.toNat + 1 by omega, hs]
        first
          | (rw [if_pos (by omega)]; omega)
          | (rw [if_neg (by omega)]; omega)
      · refine ⟨fun c55_0 => ?_, fun c55_0 => ?_⟩
        · refine B_X10_rank_67 ?_
          try dsimp only
          refine B_X10_rank_68 ?_
          try dsimp only
          refine ⟨by (refine ⟨?_, ?_⟩ <;> omega), ?_⟩
          refine ⟨by (refine ⟨?_, ?_⟩ <;> omega), ?_⟩
          refine ih (j + 1) _ _ (by omega) (by omega) ?_
          rw [show (j + 1).toNat = j.toNat + 1 by omega, hs]
          first
            | (rw [if_pos (by omega)]; omega)
            | (rw [if_neg (by omega)]; omega)
        · refine ⟨fun c60_0 => ?_, fun c60_0 => ?_⟩
          · refine B_X10_rank_67 ?_
            try dsimp only
            refine B_X10_rank_68 ?_
            try dsimp only
            refine ⟨by (refine ⟨?_, ?_⟩ <;> omega), ?_⟩
            refine ⟨by (refine ⟨?_, ?_⟩ <;> omega), ?_⟩
            refine ih (j + 1) _ _ (by omega) (by omega) ?_
            rw [show (j + 1).toNat = j.toNat + 1 by omega, hs]
            first
              | (rw [if_pos (by omega)]; omega)
              | (rw [if_neg (by omega)]; omega)
          · refine B_X10_rank_63 ?_
            try dsimp only
            refine B_X10_rank_68 ?_
            try dsimp only
            refine ⟨by (refine ⟨?_, ?_⟩ <;> omega), ?_⟩
            refine ⟨by (refine ⟨?_, ?_⟩ <;> omega), ?_⟩
            refine ih (j + 1) _ _ (by omega) (by omega) ?_
            rw [show (j + 1).toNat = j.toNat + 1 by omega, hs]
            first
              | (rw [if_pos (by omega)]; omega)
              | (rw [if_neg (by omega)]; omega)
theorem C_rank {G : amG} {I : Nat → Nat → Int} {R : Nat → Nat → Option Nat} {L : Nat → Nat → Int64} {x c t : Nat} {Q : amR → amH → Prop} (hG : amG0 G) (hR : RM R) {v : Int} (hn : 0 ≤ I 362 195 ∧ I 362 195 ≤ 30) (hd : ∀ k : Nat, (k : Int) < I 362 195 → 0 ≤ I 362 (196 + 4 * k + 3) ∧ I 362 (196 + 4 * k + 3) ≤ 1100) (hv : 0 ≤ v ∧ v < I 362 195) (hQ : ∀ r : Int, r = rkN (I 362) v.toNat (I 362 195).toNat → Q (Sum.inl (some (aI r))) (I, R, L, SH, x, 0, 0)) : CT G sX10_rank [aR (some 361), aI v] (I, R, L, SH, x, c, t) Q := by
  refine CT_of ok_X10_rank hG (Nat.le_of_ble_eq_true rfl) ?_
  show X G mX10_rank Q 0 _ [] (I, R, L, SH, x, 0, 0)
  refine B_X10_rank_0 ?_
  try dsimp only
  exact L_rank hG hR hn hd hv hQ 31 0 0 none (by decide) (by omega) rfl
theorem L_underWayNow {G : amG} {I : Nat → Nat → Int} {R : Nat → Nat → Option Nat} {L : Nat → Nat → Int64} {x : Nat} {Q : amR → amH → Prop} (hG : amG0 G) (hR : RM R) (hn : 0 ≤ I 362 195 ∧ I 362 195 ≤ 30) (hd : ∀ k : Nat, (k : Int) < I 362 195 → 0 ≤ I 362 (196 + 4 * k + 3) ∧ I 362 (196 + 4 * k + 3) ≤ 1100) {p w : Int} (hw : 0 ≤ w ∧ w ≤ 3) (hex : ∃ o : Nat, (o : Int) < I 362 195 ∧ rkN (I 362) o (I 362 195).toNat = p) (hQ : ∀ o : Nat, (o : Int) < I 362 195 → rkN (I 362) o (I 362 195).toNat = p → Q (Sum.inl (some (aI (I 362 (196 + 4 * o + w.toNat))))) (I, R, L, SH, x, 0, 0)) :
    ∀ (n : Nat) (j : Int), 0 ≤ j → I 362 195 - j < n ∧ j < I 362 195 → (∀ i : Nat, (i : Int) < j → rkN (I 362) i (I 362 195).toNat ≠ p) → X G mX10_underWayNow Q 2 [some (aR (some 361)), some (aI p), some (aI w), some (aI j)] [] (I, R, L, SH, x, 0, 0) := by
  intro n
  induction n with
  | zero =>
    intros
    exfalso; omega
  | succ n ih =>
    intro j h0 h1 hi
    refine B_X10_underWayNow_2 ?_
    try dsimp only
    refine ⟨⟨Nat.zero_le _, Nat.zero_le _, Nat.le_of_ble_eq_true rfl⟩, sh361, ?_⟩
    refine C_rank hG hR hn hd (by omega) (fun r hr => ?_)
    refine af_I0 rfl rfl (by decide) ?_
    try dsimp only
    refine B_X10_underWayNow_7 ?_
    try dsimp only
    refine ⟨fun c8_1 => ?_, fun c8_1 => ?_⟩
    · refine B_X10_underWayNow_17 ?_
      try dsimp only
      refine ⟨sh361, _, hR.z, ?_⟩
      refine ⟨by (refine ⟨?_, ?_⟩ <;> omega), ?_⟩
      refine ⟨by (refine ⟨?_, ?_⟩ <;> omega), ?_⟩
      refine ⟨by (refine ⟨?_, ?_⟩ <;> omega), ?_⟩
      refine ⟨_, sh362, ⟨by omega, by omega⟩, ?_⟩
      have e := hQ j.toNat (by omega) (by rw [← hr]; assumption)
      rw [show 196 + 4 * j.toNat + w.toNat = (196 + 4 * j + w).toNat by omega] at e
      exact e
    · refine ⟨by (refine ⟨?_, ?_⟩ <;> omega), ?_⟩
      have hno : ∀ i : Nat, (i : Int) < j + 1 → rkN (I 362) i (I 362 195).toNat ≠ p := fun i q => by
        rcases (by omega : (i : Int) < j ∨ i = j.toNat) with u | u
        · exact hi i u
        · rw [u, ← hr]; assumption
      obtain ⟨o, ho1, ho2⟩ := hex
      have : ¬ ((o : Int) < j + 1) := fun q => hno o q ho2
      exact ih (j + 1) (by omega) (by omega) hno
theorem C_underWayNow {G : amG} {I : Nat → Nat → Int} {R : Nat → Nat → Option Nat} {L : Nat → Nat → Int64} {x c t : Nat} {Q : amR → amH → Prop} (hG : amG0 G) (hR : RM R) (hn : 0 ≤ I 362 195 ∧ I 362 195 ≤ 30) (hd : ∀ k : Nat, (k : Int) < I 362 195 → 0 ≤ I 362 (196 + 4 * k + 3) ∧ I 362 (196 + 4 * k + 3) ≤ 1100) {p w : Int} (hw : 0 ≤ w ∧ w ≤ 3) (hex : ∃ o : Nat, (o : Int) < I 362 195 ∧ rkN (I 362) o (I 362 195).toNat = p) (hQ : ∀ o : Nat, (o : Int) < I 362 195 → rkN (I 362) o (I 362 195).toNat = p → Q (Sum.inl (some (aI (I 362 (196 + 4 * o + w.toNat))))) (I, R, L, SH, x, 0, 0)) : CT G sX10_underWayNow [aR (some 361), aI p, aI w] (I, R, L, SH, x, c, t) Q := by
  refine CT_of ok_X10_underWayNow hG (Nat.le_of_ble_eq_true rfl) ?_
  show X G mX10_underWayNow Q 0 _ [] (I, R, L, SH, x, 0, 0)
  refine B_X10_underWayNow_0 ?_
  try dsimp only
  have hn0 : 0 < I 362 195 := by
    obtain ⟨o, ho1, ho2⟩ := hex
    omega
  exact L_underWayNow hG hR hn hd hw hex hQ 31 0 (by decide) (by omega) (fun i q => by omega)
