/-! ===== the model: steps and sight ===== -/
theorem C_stepTo {G : amG} {I : Nat → Nat → Int} {R : Nat → Nat → Option Nat} {L : Nat → Nat → Int64} {x c t : Nat} {Q : amR → amH → Prop} (hG : amG0 G) (hR : RM R) (hh : wfH (I 362)) {v d : Int} (hv : isC v) (hd : 0 ≤ d ∧ d < 4) (hQ : ∀ r : Int, r = stT (I 362) v d → Q (Sum.inl (some (aI r))) (I, R, L, SH, x, 0, 0)) : CT G sX10_stepTo [aR (some 361), aI v, aI d] (I, R, L, SH, x, c, t) Q := by
  refine CT_of ok_X10_stepTo hG (Nat.le_of_ble_eq_true rfl) ?_
  show X G mX10_stepTo Q 0 _ [] (I, R, L, SH, x, 0, 0)
  refine B_X10_stepTo_0 ?_
  try dsimp only
  refine ⟨⟨Nat.zero_le _, Nat.zero_le _, Nat.le_of_ble_eq_true rfl⟩, trivial, ?_⟩
  refine C_neighbor hG hv hd (fun r hr => ?_)
  have b1 := nb_cell hv hd
  rw [← hr] at b1
  have b2 := hh v.toNat (by unfold isC at hv; omega)
  have b3 : r = -1 ∨ (isC r ∧ 0 ≤ I 362 r.toNat ∧ I 362 r.toNat ≤ 9) := b1.imp id (fun q => ⟨q, hh r.toNat (by unfold isC at q; omega)⟩)
  unfold isC at hv b3
  refine af_I0 rfl rfl (by decide) ?_
  try dsimp only
  refine B_X10_stepTo_5 ?_
  try dsimp only
  refine ⟨fun c8_1 => ?_, fun c8_1 => ?_⟩
  · refine B_X10_stepTo_31 ?_
    try dsimp only
    refine B_X10_stepTo_36 ?_
    try dsimp only
    refine hQ _ ?_
    unfold stT
    rw [← hr]
    unfold clm
    first | (rw [if_pos (by omega)]; done) | (rw [if_neg (by omega)]; done)
  · refine ⟨sh361, _, hR.z, ?_⟩
    refine ⟨_, sh362, ⟨by omega, by omega⟩, ?_⟩
    refine ⟨sh361, _, hR.z, ?_⟩
    refine ⟨_, sh362, ⟨by omega, by omega⟩, ?_⟩
    refine ⟨by (refine ⟨?_, ?_⟩ <;> omega), ?_⟩
    refine ⟨⟨Nat.zero_le _, Nat.zero_le _, Nat.le_of_ble_eq_true rfl⟩, trivial, ?_⟩
    refine C_size hG (by omega) (fun r2 hr2 => ?_)
    refine af_I0 rfl rfl (by decide) ?_
    try dsimp only
    refine B_X10_stepTo_27 ?_
    try dsimp only
    refine ⟨fun c28_2 => ?_, fun c28_2 => ?_⟩
    · refine B_X10_stepTo_35 ?_
      try dsimp only
      refine B_X10_stepTo_36 ?_
      try dsimp only
      refine hQ _ ?_
      unfold stT
      rw [← hr]
      unfold clm
      first | (rw [if_pos (by omega)]; done) | (rw [if_neg (by omega)]; done)
    · refine B_X10_stepTo_31 ?_
      try dsimp only
      refine B_X10_stepTo_36 ?_
      try dsimp only
      refine hQ _ ?_
      unfold stT
      rw [← hr]
      unfold clm
      first | (rw [if_pos (by omega)]; done) | (rw [if_neg (by omega)]; done)
theorem L_steps {G : amG} {I : Nat → Nat → Int} {R : Nat → Nat → Option Nat} {L : Nat → Nat → Int64} {x : Nat} {Q : amR → amH → Prop} (hG : amG0 G) (hR : RM R) (hh : wfH (I 362)) {v : Int} (hv : isC v) (hQ : ∀ r : Int, r = exN (I 362) v 4 → Q (Sum.inl (some (aI r))) (I, R, L, SH, x, 0, 0)) :
    ∀ (n : Nat) (j s : Int), 0 ≤ j → 4 - j < n ∧ j ≤ 4 → s = exN (I 362) v j.toNat → X G mX10_steps Q 4 [some (aR (some 361)), some (aI v), some (aI s), some (aI j)] [] (I, R, L, SH, x, 0, 0) := by
  intro n
  induction n with
  | zero =>
    intros
    exfalso; omega
  | succ n ih =>
    intro j s h0 h1 hs
    have hb := exN_b (I 362) v j.toNat
    refine B_X10_steps_4 ?_
    try dsimp only
    refine ⟨fun c6_0 => ?_, fun c6_0 => ?_⟩
    · refine B_X10_steps_33 ?_
      try dsimp only
      refine hQ _ ?_
      rw [hs]
      congr 1
      omega
    · refine ⟨⟨Nat.zero_le _, Nat.zero_le _, Nat.le_of_ble_eq_true rfl⟩, sh361, ?_⟩
      refine C_stepTo hG hR hh hv (by omega) (fun r hr => ?_)
      have b1 := stT_cell (z := I 362) hv (d := j) (by omega)
      have b2 : stT (I 362) v j ≠ -1 ↔ nb v j ≠ -1 ∧ clm (I 362) v (nb v j) := by
        unfold stT
        split
        · rename_i q; exact ⟨fun _ => q, fun _ => q.1⟩
        · rename_i q; exact ⟨fun w => absurd rfl w, fun w => absurd w q⟩
      rw [← hr] at b1 b2
      refine af_I0 rfl rfl (by decide) ?_
      try dsimp only
      refine B_X10_steps_16 ?_
      try dsimp only
      refine ⟨fun c17_1 => ?_, fun c17_1 => ?_⟩
      · refine B_X10_steps_24 ?_
        try dsimp only
        refine B_X10_steps_25 ?_
        try dsimp only
        refine ⟨by (refine ⟨?_, ?_⟩ <;> omega), ?_⟩
        refine ⟨by (refine ⟨?_, ?_⟩ <;> omega), ?_⟩
        refine ih (j + 1) _ (by omega) (by omega) ?_
        rw [show (j + 1).toNat = j.toNat + 1 by omega]
        unfold exN
        rw [Int.toNat_of_nonneg h0]
        first | (rw [if_pos (b2.mp (by omega)), hs]; done) | (rw [if_neg (fun w => absurd (b2.mpr w) (by omega)), hs]; done)
      · refine B_X10_steps_25 ?_
        try dsimp only
        refine ⟨by (refine ⟨?_, ?_⟩ <;> omega), ?_⟩
        refine ⟨by (refine ⟨?_, ?_⟩ <;> omega), ?_⟩
        refine ih (j + 1) _ (by omega) (by omega) ?_
        rw [show (j + 1).toNat = j.toNat + 1 by omega]
        unfold exN
        rw [Int.toNat_of_nonneg h0]
        first | (rw [if_pos (b2.mp (by omega)), hs]; done) | (rw [if_neg (fun w => absurd (b2.mpr w) (by omega)), hs]; done)
theorem C_steps {G : amG} {I : Nat → Nat → Int} {R : Nat → Nat → Option Nat} {L : Nat → Nat → Int64} {x c t : Nat} {Q : amR → amH → Prop} (hG : amG0 G) (hR : RM R) (hh : wfH (I 362)) {v : Int} (hv : isC v) (hQ : ∀ r : Int, r = exN (I 362) v 4 → Q (Sum.inl (some (aI r))) (I, R, L, SH, x, 0, 0)) : CT G sX10_steps [aR (some 361), aI v] (I, R, L, SH, x, c, t) Q := by
  refine CT_of ok_X10_steps hG (Nat.le_of_ble_eq_true rfl) ?_
  show X G mX10_steps Q 0 _ [] (I, R, L, SH, x, 0, 0)
  refine B_X10_steps_0 ?_
  try dsimp only
  exact L_steps hG hR hh hv hQ 5 0 0 (by decide) (by decide) rfl
theorem L_isSeen {G : amG} {I : Nat → Nat → Int} {R : Nat → Nat → Option Nat} {L : Nat → Nat → Int64} {x : Nat} {Q : amR → amH → Prop} (hG : amG0 G) (hR : RM R) (hh : wfH (I 362)) {a b xa ya dx dy m : Int} (v1 v2 : Int) (ha : isC a) (hb : isC b) (exa : xa = a % 12) (eya : ya = a / 12) (edx : dx = b % 12 - a % 12) (edy : dy = b / 12 - a / 12) (em : m = nn a b) (hQ : ∀ r : Int, (seeU (I 362) a b ∧ r = 1) ∨ (¬ seeU (I 362) a b ∧ r = 0) → Q (Sum.inl (some (aI r))) (I, R, L, SH, x, 0, 0)) :
    ∀ (n : Nat) (k s : Int) (l1 l2 : Option amV), 1 ≤ k → 12 - k < n ∧ k ≤ 12 → (s = 1 ∧ ∀ j : Int, 1 ≤ j → j < k → j < nn a b → seeK (I 362) a b j) ∨ (s = 0 ∧ ¬ seeU (I 362) a b) → X G mX10_isSeen Q 84 [some (aR (some 361)), some (aI v1), some (aI v2), some (aI a), some (aI b), some (aI xa), some (aI ya), some (aI dx), some (aI dy), some (aI m), some (aI s), some (aI k), l1, l2] [] (I, R, L, SH, x, 0, 0) := by
  intro n
  induction n with
  | zero =>
    intros
    exfalso; omega
  | succ n ih =>
    intro k s l1 l2 h0 h1 hs
    subst exa eya edx edy em
    unfold isC at ha hb
    have n0 : 0 ≤ nn a b ∧ nn a b ≤ 11 := nn_b ha hb
    have dx0 : b % 12 - a % 12 ≤ nn a b ∧ -(b % 12 - a % 12) ≤ nn a b := by unfold nn ab; repeat' split; all_goals omega
    have za := hh a.toNat (by omega)
    have zb := hh b.toNat (by omega)
    refine B_X10_isSeen_84 ?_
    try dsimp only
    refine ⟨fun c88_0 => ?_, fun c88_0 => ?_⟩
    · refine B_X10_isSeen_201 ?_
      try dsimp only
      refine ⟨by first | exact Or.inl rfl | exact Or.inr rfl | omega, ?_⟩
      refine hQ _ ?_
      rcases hs with hs | hs
      · first | exact Or.inl ⟨fun j j1 j2 => hs.2 j j1 (by omega) j2, hs.1⟩ | (exfalso; omega)
      · exact Or.inr ⟨hs.2, hs.1⟩
    · have q1 := pt_sum (n := nn a b) (a := a % 12) (d := b % 12 - a % 12) (k := k) (M := 11) (by omega) (by omega) (by omega)
      have q2 := pt_sum (n := nn a b) (a := a / 12) (d := b / 12 - a / 12) (k := k) (M := 7) (by omega) (by omega) (by omega)
      have q3 := pt_b (n := nn a b) (a := a % 12) (d := b % 12 - a % 12) (k := k) (M := 11) (by omega) (by omega) (by omega) (by omega)
      have q4 := pt_b (n := nn a b) (a := a / 12) (d := b / 12 - a / 12) (k := k) (M := 7) (by omega) (by omega) (by omega) (by omega)
      have q5 : Int.tdiv (2 * (nn a b * (a % 12) + k * (b % 12 - a % 12)) + nn a b) (2 * nn a b) = pt (nn a b) (a % 12) (b % 12 - a % 12) k := Int.tdiv_eq_ediv_of_nonneg (by omega)
      have q6 : Int.tdiv (2 * (nn a b * (a / 12) + k * (b / 12 - a / 12)) + nn a b) (2 * nn a b) = pt (nn a b) (a / 12) (b / 12 - a / 12) k := Int.tdiv_eq_ediv_of_nonneg (by omega)
      have q7 := mulb (a := nn a b) (b := a % 12) (A := 11) (B := 11) (by omega) (by omega)
      have q8 := mulb (a := nn a b) (b := a / 12) (A := 11) (B := 7) (by omega) (by omega)
      rw [q5, q6]
      have zp := hh (12 * pt (nn a b) (a / 12) (b / 12 - a / 12) k + pt (nn a b) (a % 12) (b % 12 - a % 12) k).toNat (by omega)
      have q9 := mulb (A := 9) (B := 11) zp n0
      have q10 := mulb (a := I 362 a.toNat + 1) (b := nn a b - k) (A := 10) (B := 11) (by omega) (by omega)
      have q11 := mulb (a := I 362 b.toNat + 1) (b := k) (A := 10) (B := 11) (by omega) (by omega)
      refine ⟨fun c93_0 => ?_, fun c93_0 => ?_⟩
      · refine B_X10_isSeen_201 ?_
        try dsimp only
        refine ⟨by first | exact Or.inl rfl | exact Or.inr rfl | omega, ?_⟩
        refine hQ _ ?_
        rcases hs with hs | hs
        · first | exact Or.inl ⟨fun j j1 j2 => hs.2 j j1 (by omega) j2, hs.1⟩ | (exfalso; omega)
        · exact Or.inr ⟨hs.2, hs.1⟩
      · refine ⟨by (refine ⟨?_, ?_⟩ <;> omega), ?_⟩
        refine ⟨by (refine ⟨?_, ?_⟩ <;> omega), ?_⟩
        refine ⟨by (refine ⟨?_, ?_⟩ <;> omega), ?_⟩
        refine ⟨by (refine ⟨?_, ?_⟩ <;> omega), ?_⟩
        refine ⟨by (refine ⟨?_, ?_⟩ <;> omega), ?_⟩
        refine ⟨by (refine ⟨?_, ?_⟩ <;> omega), ?_⟩
        refine ⟨⟨by omega, by (refine ⟨?_, ?_⟩ <;> omega)⟩, ?_⟩
        refine ⟨by (refine ⟨?_, ?_⟩ <;> omega), ?_⟩
        refine ⟨by (refine ⟨?_, ?_⟩ <;> omega), ?_⟩
        refine ⟨by (refine ⟨?_, ?_⟩ <;> omega), ?_⟩
        refine ⟨by (refine ⟨?_, ?_⟩ <;> omega), ?_⟩
        refine ⟨by (refine ⟨?_, ?_⟩ <;> omega), ?_⟩
        refine ⟨by (refine ⟨?_, ?_⟩ <;> omega), ?_⟩
        refine ⟨⟨by omega, by (refine ⟨?_, ?_⟩ <;> omega)⟩, ?_⟩
        refine ⟨sh361, _, hR.z, ?_⟩
        refine ⟨by (refine ⟨?_, ?_⟩ <;> omega), ?_⟩
        refine ⟨by (refine ⟨?_, ?_⟩ <;> omega), ?_⟩
        refine ⟨_, sh362, ⟨by omega, by omega⟩, ?_⟩
        refine ⟨by (refine ⟨?_, ?_⟩ <;> omega), ?_⟩
        refine ⟨sh361, _, hR.z, ?_⟩
        refine ⟨_, sh362, ⟨by omega, by omega⟩, ?_⟩
        refine ⟨by (refine ⟨?_, ?_⟩ <;> omega), ?_⟩
        refine ⟨by (refine ⟨?_, ?_⟩ <;> omega), ?_⟩
        refine ⟨by (refine ⟨?_, ?_⟩ <;> omega), ?_⟩
        refine ⟨sh361, _, hR.z, ?_⟩
        refine ⟨_, sh362, ⟨by omega, by omega⟩, ?_⟩
        refine ⟨by (refine ⟨?_, ?_⟩ <;> omega), ?_⟩
        refine ⟨by (refine ⟨?_, ?_⟩ <;> omega), ?_⟩
        refine ⟨by (refine ⟨?_, ?_⟩ <;> omega), ?_⟩
        refine ⟨fun c185_0 => ?_, fun c185_0 => ?_⟩
        · refine B_X10_isSeen_192 ?_
          try dsimp only
          refine B_X10_isSeen_193 ?_
          try dsimp only
          refine ⟨by (refine ⟨?_, ?_⟩ <;> omega), ?_⟩
          refine ih (k + 1) _ _ _ (by omega) (by omega) ?_
          first
            | exact Or.inr ⟨rfl, fun w => by have w1 := w k h0 (by omega); unfold seeK at w1; omega⟩
            | exact Or.inl ⟨rfl, fun j j0 j1 j2 => by
                rcases hs with hs | hs
                · rcases Int.lt_or_le j k with z1 | z1
                  · exact hs.2 j j0 z1 j2
                  · have e : j = k := by omega
                    rw [e]; unfold seeK; omega
                · omega⟩
        · refine B_X10_isSeen_193 ?_
          try dsimp only
          refine ⟨by (refine ⟨?_, ?_⟩ <;> omega), ?_⟩
          refine ih (k + 1) _ _ _ (by omega) (by omega) ?_
          first
            | exact Or.inr ⟨rfl, fun w => by have w1 := w k h0 (by omega); unfold seeK at w1; omega⟩
            | exact Or.inl ⟨rfl, fun j j0 j1 j2 => by
                rcases hs with hs | hs
                · rcases Int.lt_or_le j k with z1 | z1
                  · exact hs.2 j j0 z1 j2
                  · have e : j = k := by omega
                    rw [e]; unfold seeK; omega
                · omega⟩
theorem C_isSeen {G : amG} {I : Nat → Nat → Int} {R : Nat → Nat → Option Nat} {L : Nat → Nat → Int64} {x c t : Nat} {Q : amR → amH → Prop} (hG : amG0 G) (hR : RM R) (hh : wfH (I 362)) {v w : Int} (hv : isC v) (hw : isC w) (hQ : ∀ r : Int, (seeU (I 362) v w ∧ r = 1) ∨ (¬ seeU (I 362) v w ∧ r = 0) → Q (Sum.inl (some (aI r))) (I, R, L, SH, x, 0, 0)) : CT G sX10_isSeen [aR (some 361), aI v, aI w] (I, R, L, SH, x, c, t) Q := by
  refine CT_of ok_X10_isSeen hG (Nat.le_of_ble_eq_true rfl) ?_
  show X G mX10_isSeen Q 0 _ [] (I, R, L, SH, x, 0, 0)
  have eb : v + w - v = w := by omega
  have ec : v + w - w = v := by omega
  have td1 : v.tdiv 12 = v / 12 := Int.tdiv_eq_ediv_of_nonneg (by unfold isC at hv; omega)
  have tm1 : v.tmod 12 = v % 12 := Int.tmod_eq_emod_of_nonneg (by unfold isC at hv; omega)
  have td2 : w.tdiv 12 = w / 12 := Int.tdiv_eq_ediv_of_nonneg (by unfold isC at hw; omega)
  have tm2 : w.tmod 12 = w % 12 := Int.tmod_eq_emod_of_nonneg (by unfold isC at hw; omega)
  have hv' : 0 ≤ v ∧ v < 96 := hv
  have hw' : 0 ≤ w ∧ w < 96 := hw
  refine B_X10_isSeen_0 ?_
  try dsimp only
  refine ⟨fun c2_0 => ?_, fun c2_0 => ?_⟩
  · refine B_X10_isSeen_9 ?_
    try dsimp only
    try rw [eb]
    try rw [ec]
    try rw [tm1]
    try rw [td1]
    try rw [tm2]
    try rw [td2]
    refine B_X10_isSeen_10 ?_
    try dsimp only
    try rw [eb]
    try rw [ec]
    try rw [tm1]
    try rw [td1]
    try rw [tm2]
    try rw [td2]
    refine ⟨by (refine ⟨?_, ?_⟩ <;> omega), ?_⟩
    refine ⟨by (refine ⟨?_, ?_⟩ <;> omega), ?_⟩
    refine ⟨⟨by decide, by (refine ⟨?_, ?_⟩ <;> omega)⟩, ?_⟩
    refine ⟨⟨by decide, by (refine ⟨?_, ?_⟩ <;> omega)⟩, ?_⟩
    refine ⟨⟨by decide, by (refine ⟨?_, ?_⟩ <;> omega)⟩, ?_⟩
    refine ⟨by (refine ⟨?_, ?_⟩ <;> omega), ?_⟩
    refine ⟨⟨by decide, by (refine ⟨?_, ?_⟩ <;> omega)⟩, ?_⟩
    refine ⟨by (refine ⟨?_, ?_⟩ <;> omega), ?_⟩
    refine ⟨⟨Nat.zero_le _, Nat.zero_le _, Nat.le_of_ble_eq_true rfl⟩, trivial, ?_⟩
    refine C_size hG (by omega) (fun r1 g1 => ?_)
    refine af_I0 rfl rfl (by decide) ?_
    try dsimp only
    refine B_X10_isSeen_55 ?_
    try dsimp only
    refine ⟨⟨Nat.zero_le _, Nat.zero_le _, Nat.le_of_ble_eq_true rfl⟩, trivial, ?_⟩
    refine C_size hG (by omega) (fun r2 g2 => ?_)
    refine af_I0 rfl rfl (by decide) ?_
    try dsimp only
    refine B_X10_isSeen_60 ?_
    try dsimp only
    refine ⟨fun c60_4 => ?_, fun c60_4 => ?_⟩
    · refine B_X10_isSeen_71 ?_
      try dsimp only
      refine ⟨⟨Nat.zero_le _, Nat.zero_le _, Nat.le_of_ble_eq_true rfl⟩, trivial, ?_⟩
      refine C_size hG (by omega) (fun r3 g3 => ?_)
      refine af_I0 rfl rfl (by decide) ?_
      try dsimp only
      refine B_X10_isSeen_76 ?_
      try dsimp only
      first
        | (refine L_isSeen hG hR hh (a := v) (b := w) v w hv hw rfl rfl rfl rfl ?_ hQ 13 1 1 none none (by decide) (by decide) (Or.inl ⟨rfl, fun j j1 j2 => by omega⟩)
           unfold nn ab
           repeat' split
           all_goals omega)
        | (refine L_isSeen hG hR hh (a := w) (b := v) v w hw hv rfl rfl rfl rfl ?_ (fun r q => hQ r (q.imp (fun q => ⟨seeU_sym.mp q.1, q.2⟩) (fun q => ⟨fun w => q.1 (seeU_sym.mp w), q.2⟩))) 13 1 1 none none (by decide) (by decide) (Or.inl ⟨rfl, fun j j1 j2 => by omega⟩)
           unfold nn ab
           repeat' split
           all_goals omega)
    · refine ⟨⟨Nat.zero_le _, Nat.zero_le _, Nat.le_of_ble_eq_true rfl⟩, trivial, ?_⟩
      refine C_size hG (by omega) (fun r3 g3 => ?_)
      refine af_I0 rfl rfl (by decide) ?_
      try dsimp only
      refine B_X10_isSeen_68 ?_
      try dsimp only
      refine B_X10_isSeen_76 ?_
      try dsimp only
      first
        | (refine L_isSeen hG hR hh (a := v) (b := w) v w hv hw rfl rfl rfl rfl ?_ hQ 13 1 1 none none (by decide) (by decide) (Or.inl ⟨rfl, fun j j1 j2 => by omega⟩)
           unfold nn ab
           repeat' split
           all_goals omega)
        | (refine L_isSeen hG hR hh (a := w) (b := v) v w hw hv rfl rfl rfl rfl ?_ (fun r q => hQ r (q.imp (fun q => ⟨seeU_sym.mp q.1, q.2⟩) (fun q => ⟨fun w => q.1 (seeU_sym.mp w), q.2⟩))) 13 1 1 none none (by decide) (by decide) (Or.inl ⟨rfl, fun j j1 j2 => by omega⟩)
           unfold nn ab
           repeat' split
           all_goals omega)
  · refine B_X10_isSeen_10 ?_
    try dsimp only
    try rw [eb]
    try rw [ec]
    try rw [tm1]
    try rw [td1]
    try rw [tm2]
    try rw [td2]
    refine ⟨by (refine ⟨?_, ?_⟩ <;> omega), ?_⟩
    refine ⟨by (refine ⟨?_, ?_⟩ <;> omega), ?_⟩
    refine ⟨⟨by decide, by (refine ⟨?_, ?_⟩ <;> omega)⟩, ?_⟩
    refine ⟨⟨by decide, by (refine ⟨?_, ?_⟩ <;> omega)⟩, ?_⟩
    refine ⟨⟨by decide, by (refine ⟨?_, ?_⟩ <;> omega)⟩, ?_⟩
    refine ⟨by (refine ⟨?_, ?_⟩ <;> omega), ?_⟩
    refine ⟨⟨by decide, by (refine ⟨?_, ?_⟩ <;> omega)⟩, ?_⟩
    refine ⟨by (refine ⟨?_, ?_⟩ <;> omega), ?_⟩
    refine ⟨⟨Nat.zero_le _, Nat.zero_le _, Nat.le_of_ble_eq_true rfl⟩, trivial, ?_⟩
    refine C_size hG (by omega) (fun r1 g1 => ?_)
    refine af_I0 rfl rfl (by decide) ?_
    try dsimp only
    refine B_X10_isSeen_55 ?_
    try dsimp only
    refine ⟨⟨Nat.zero_le _, Nat.zero_le _, Nat.le_of_ble_eq_true rfl⟩, trivial, ?_⟩
    refine C_size hG (by omega) (fun r2 g2 => ?_)
    refine af_I0 rfl rfl (by decide) ?_
    try dsimp only
    refine B_X10_isSeen_60 ?_
    try dsimp only
    refine ⟨fun c60_3 => ?_, fun c60_3 => ?_⟩
    · refine B_X10_isSeen_71 ?_
      try dsimp only
      refine ⟨⟨Nat.zero_le _, Nat.zero_le _, Nat.le_of_ble_eq_true rfl⟩, trivial, ?_⟩
      refine C_size hG (by omega) (fun r3 g3 => ?_)
      refine af_I0 rfl rfl (by decide) ?_
      try dsimp only
      refine B_X10_isSeen_76 ?_
      try dsimp only
      first
        | (refine L_isSeen hG hR hh (a := v) (b := w) v w hv hw rfl rfl rfl rfl ?_ hQ 13 1 1 none none (by decide) (by decide) (Or.inl ⟨rfl, fun j j1 j2 => by omega⟩)
           unfold nn ab
           repeat' split
           all_goals omega)
        | (refine L_isSeen hG hR hh (a := w) (b := v) v w hw hv rfl rfl rfl rfl ?_ (fun r q => hQ r (q.imp (fun q => ⟨seeU_sym.mp q.1, q.2⟩) (fun q => ⟨fun w => q.1 (seeU_sym.mp w), q.2⟩))) 13 1 1 none none (by decide) (by decide) (Or.inl ⟨rfl, fun j j1 j2 => by omega⟩)
           unfold nn ab
           repeat' split
           all_goals omega)
    · refine ⟨⟨Nat.zero_le _, Nat.zero_le _, Nat.le_of_ble_eq_true rfl⟩, trivial, ?_⟩
      refine C_size hG (by omega) (fun r3 g3 => ?_)
      refine af_I0 rfl rfl (by decide) ?_
      try dsimp only
      refine B_X10_isSeen_68 ?_
      try dsimp only
      refine B_X10_isSeen_76 ?_
      try dsimp only
      first
        | (refine L_isSeen hG hR hh (a := v) (b := w) v w hv hw rfl rfl rfl rfl ?_ hQ 13 1 1 none none (by decide) (by decide) (Or.inl ⟨rfl, fun j j1 j2 => by omega⟩)
           unfold nn ab
           repeat' split
           all_goals omega)
        | (refine L_isSeen hG hR hh (a := w) (b := v) v w hw hv rfl rfl rfl rfl ?_ (fun r q => hQ r (q.imp (fun q => ⟨seeU_sym.mp q.1, q.2⟩) (fun q => ⟨fun w => q.1 (seeU_sym.mp w), q.2⟩))) 13 1 1 none none (by decide) (by decide) (Or.inl ⟨rfl, fun j j1 j2 => by omega⟩)
           unfold nn ab
           repeat' split
           all_goals omega)
