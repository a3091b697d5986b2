/-! ===== the model: what a troop loses ===== -/
def lsN (z : Row) (k : Nat) : Nat → Int
  | 0 => 0
  | n + 1 => lsN z k n + (if nb (tf z k 1) n ≠ -1 ∧ tAt z (nb (tf z k 1) n) ≠ -1 ∧ tf z (tAt z (nb (tf z k 1) n)).toNat 0 ≠ tf z k 0 then (if z (tf z k 1).toNat < z (nb (tf z k 1) n).toNat then 2 else 1) else 0)
theorem lsN_b (z : Row) (k : Nat) : ∀ n : Nat, 0 ≤ lsN z k n ∧ lsN z k n ≤ 2 * n := by
  intro n
  induction n with
  | zero =>
    show 0 ≤ (0 : Int) ∧ (0 : Int) ≤ 2 * ((0 : Nat) : Int)
    omega
  | succ k ih =>
    unfold lsN
    repeat' split
    all_goals omega
def lossZ (z : Row) (k : Nat) : Int := if tf z k 4 = 2 then 0 else if lsN z k 4 < tf z k 2 then lsN z k 4 else tf z k 2
theorem lossZ_b {z : Row} {k : Nat} (hs : 0 ≤ tf z k 2 ∧ tf z k 2 ≤ 20) : 0 ≤ lossZ z k ∧ lossZ z k ≤ 8 ∧ (tf z k 4 ≠ 2 → lossZ z k ≤ tf z k 2) := by
  have := lsN_b z k 4
  unfold lossZ
  repeat' split
  all_goals omega
theorem L_loss {G : amG} {I : Nat → Nat → Int} {R : Nat → Nat → Option Nat} {L : Nat → Nat → Int64} {x : Nat} {Q : amR → amH → Prop} (hG : amG0 G) (hR : RM R) (hh : wfH (I 362)) (hn : wfN (I 362)) {k : Int} (hk : 0 ≤ k ∧ k < I 362 98) (ht : wfT1 (I 362) k.toNat) (h4 : tf (I 362) k.toNat 4 ≠ 2) (hQ : ∀ r : Int, r = lossZ (I 362) k.toNat → Q (Sum.inl (some (aI r))) (I, R, L, SH, x, 0, 0)) :
    ∀ (n : Nat) (w s : Int) (l4 l5 : Option amV), 0 ≤ w ∧ w ≤ 4 ∧ 4 - w < n → s = lsN (I 362) k.toNat w.toNat → X G mX10_loss Q 4 [some (aR (some 361)), some (aI k), some (aI s), some (aI w), l4, l5] [] (I, R, L, SH, x, 0, 0) := by
  intro n
  induction n with
  | zero =>
    intros
    exfalso; omega
  | succ n ih =>
    intro w s l4 l5 h1 hs
    have hb := lsN_b (I 362) k.toNat w.toNat
    have hn1 := hn.1
    have hn2 := hn.2
    have ht' := ht
    unfold wfT1 at ht'
    have hcc : isC (tf (I 362) k.toNat 1) := by unfold isC; omega
    have hz0 := hh (tf (I 362) k.toNat 1).toNat (by omega)
    refine B_X10_loss_4 ?_
    try dsimp only
    refine ⟨fun c6_0 => ?_, fun c6_0 => ?_⟩
    · refine B_X10_loss_104 ?_
      try dsimp only
      refine ⟨⟨Nat.zero_le _, Nat.zero_le _, Nat.le_of_ble_eq_true rfl⟩, sh361, ?_⟩
      refine C_of hG hR (by omega) (by decide) (fun r hr => ?_)
      have hr : r = tf (I 362) k.toNat 2 := hr
      subst hr
      refine af_I0 rfl rfl (by decide) ?_
      try dsimp only
      refine B_X10_loss_111 ?_
      try dsimp only
      refine ⟨fun c111_2 => ?_, fun c111_2 => ?_⟩
      · refine B_X10_loss_118 ?_
        try dsimp only
        refine ⟨⟨Nat.zero_le _, Nat.zero_le _, Nat.le_of_ble_eq_true rfl⟩, sh361, ?_⟩
        refine C_of hG hR (by omega) (by decide) (fun r hr => ?_)
        have hr : r = tf (I 362) k.toNat 2 := hr
        subst hr
        refine af_I0 rfl rfl (by decide) ?_
        try dsimp only
        refine B_X10_loss_124 ?_
        try dsimp only
        first
          | (exfalso; omega)
          | (refine hQ _ ?_
             have e4 : w.toNat = 4 := by omega
             rw [e4] at hs
             unfold lossZ
             rw [if_neg h4]
             first | (rw [if_pos (by omega)]; omega) | (rw [if_neg (by omega)]; done) | (rw [if_neg (by omega)]; omega))
      · refine B_X10_loss_124 ?_
        try dsimp only
        first
          | (exfalso; omega)
          | (refine hQ _ ?_
             have e4 : w.toNat = 4 := by omega
             rw [e4] at hs
             unfold lossZ
             rw [if_neg h4]
             first | (rw [if_pos (by omega)]; omega) | (rw [if_neg (by omega)]; done) | (rw [if_neg (by omega)]; omega))
    · refine ⟨⟨Nat.zero_le _, Nat.zero_le _, Nat.le_of_ble_eq_true rfl⟩, sh361, ?_⟩
      refine C_isGone hG hR (by omega) (fun r0 hr0 => ?_)
      refine af_I0 rfl rfl (by decide) ?_
      try dsimp only
      refine B_X10_loss_14 ?_
      try dsimp only
      refine ⟨fun c14_1 => ?_, fun c14_1 => ?_⟩
      · refine B_X10_loss_104 ?_
        try dsimp only
        refine ⟨⟨Nat.zero_le _, Nat.zero_le _, Nat.le_of_ble_eq_true rfl⟩, sh361, ?_⟩
        refine C_of hG hR (by omega) (by decide) (fun r hr => ?_)
        have hr : r = tf (I 362) k.toNat 2 := hr
        subst hr
        refine af_I0 rfl rfl (by decide) ?_
        try dsimp only
        refine B_X10_loss_111 ?_
        try dsimp only
        refine ⟨fun c111_3 => ?_, fun c111_3 => ?_⟩
        · refine B_X10_loss_118 ?_
          try dsimp only
          refine ⟨⟨Nat.zero_le _, Nat.zero_le _, Nat.le_of_ble_eq_true rfl⟩, sh361, ?_⟩
          refine C_of hG hR (by omega) (by decide) (fun r hr => ?_)
          have hr : r = tf (I 362) k.toNat 2 := hr
          subst hr
          refine af_I0 rfl rfl (by decide) ?_
          try dsimp only
          refine B_X10_loss_124 ?_
          try dsimp only
          first
            | (exfalso; omega)
            | (refine hQ _ ?_
               have e4 : w.toNat = 4 := by omega
               rw [e4] at hs
               unfold lossZ
               rw [if_neg h4]
               first | (rw [if_pos (by omega)]; omega) | (rw [if_neg (by omega)]; done) | (rw [if_neg (by omega)]; omega))
        · refine B_X10_loss_124 ?_
          try dsimp only
          first
            | (exfalso; omega)
            | (refine hQ _ ?_
               have e4 : w.toNat = 4 := by omega
               rw [e4] at hs
               unfold lossZ
               rw [if_neg h4]
               first | (rw [if_pos (by omega)]; omega) | (rw [if_neg (by omega)]; done) | (rw [if_neg (by omega)]; omega))
      · refine ⟨⟨Nat.zero_le _, Nat.zero_le _, Nat.le_of_ble_eq_true rfl⟩, sh361, ?_⟩
        refine C_of hG hR (by omega) (by decide) (fun r hr => ?_)
        have hr : r = tf (I 362) k.toNat 1 := hr
        subst hr
        refine af_I0 rfl rfl (by decide) ?_
        try dsimp only
        refine B_X10_loss_23 ?_
        try dsimp only
        refine ⟨⟨Nat.zero_le _, Nat.zero_le _, Nat.le_of_ble_eq_true rfl⟩, trivial, ?_⟩
        have hnb := nb_cell hcc (d := w) (by omega)
        have hnb2 : nb (tf (I 362) k.toNat 1) w = -1 ∨ (0 ≤ nb (tf (I 362) k.toNat 1) w ∧ nb (tf (I 362) k.toNat 1) w < 96) := hnb
        have hz1 : nb (tf (I 362) k.toNat 1) w = -1 ∨ (0 ≤ I 362 (nb (tf (I 362) k.toNat 1) w).toNat ∧ I 362 (nb (tf (I 362) k.toNat 1) w).toNat ≤ 9) := hnb.imp id (fun q => hh _ (by have q2 : 0 ≤ nb (tf (I 362) k.toNat 1) w ∧ nb (tf (I 362) k.toNat 1) w < 96 := q; omega))
        refine C_neighbor hG hcc (by omega) (fun r hr => ?_)
        subst hr
        refine af_I0 rfl rfl (by decide) ?_
        try dsimp only
        refine B_X10_loss_27 ?_
        try dsimp only
        refine ⟨fun c32_3 => ?_, fun c32_3 => ?_⟩
        · refine B_X10_loss_39 ?_
          try dsimp only
          refine ⟨⟨Nat.zero_le _, Nat.zero_le _, Nat.le_of_ble_eq_true rfl⟩, sh361, ?_⟩
          refine C_troopAt hG hR hn (fun r hr => ?_)
          subst hr
          have hta : -1 ≤ tAt (I 362) (nb (tf (I 362) k.toNat 1) w) ∧ tAt (I 362) (nb (tf (I 362) k.toNat 1) w) < ((I 362 98).toNat : Nat) := tA_lt _ _ _
          refine af_I0 rfl rfl (by decide) ?_
          try dsimp only
          refine B_X10_loss_45 ?_
          try dsimp only
          refine ⟨fun c50_5 => ?_, fun c50_5 => ?_⟩
          · refine B_X10_loss_98 ?_
            try dsimp only
            refine ⟨by (refine ⟨?_, ?_⟩ <;> omega), ?_⟩
            refine ih (w + 1) _ _ _ (by omega) ?_
            rw [show (w + 1).toNat = w.toNat + 1 by omega]
            unfold lsN
            rw [show ((w.toNat : Nat) : Int) = w by omega, hs]
            first | (rw [if_pos ⟨by omega, by omega, by omega⟩, if_pos (by omega)]; done) | (rw [if_pos ⟨by omega, by omega, by omega⟩, if_neg (by omega)]; done) | (rw [if_neg (by omega), Int.add_zero]; done) | (exfalso; omega)
          · first
              | (exfalso; omega)
              | (refine ⟨⟨Nat.zero_le _, Nat.zero_le _, Nat.le_of_ble_eq_true rfl⟩, sh361, ?_⟩
                 refine C_of hG hR (by omega) (by decide) (fun r hr => ?_)
                 have hr : r = tf (I 362) (tAt (I 362) (nb (tf (I 362) k.toNat 1) w)).toNat 0 := hr
                 subst hr
                 refine af_I0 rfl rfl (by decide) ?_
                 try dsimp only
                 refine B_X10_loss_60 ?_
                 try dsimp only
                 refine ⟨⟨Nat.zero_le _, Nat.zero_le _, Nat.le_of_ble_eq_true rfl⟩, sh361, ?_⟩
                 refine C_of hG hR (by omega) (by decide) (fun r hr => ?_)
                 have hr : r = tf (I 362) k.toNat 0 := hr
                 subst hr
                 refine af_I0 rfl rfl (by decide) ?_
                 try dsimp only
                 refine B_X10_loss_66 ?_
                 try dsimp only
                 refine ⟨fun c66_7 => ?_, fun c66_7 => ?_⟩
                 · refine B_X10_loss_98 ?_
                   try dsimp only
                   refine ⟨by (refine ⟨?_, ?_⟩ <;> omega), ?_⟩
                   refine ih (w + 1) _ _ _ (by omega) ?_
                   rw [show (w + 1).toNat = w.toNat + 1 by omega]
                   unfold lsN
                   rw [show ((w.toNat : Nat) : Int) = w by omega, hs]
                   first | (rw [if_pos ⟨by omega, by omega, by omega⟩, if_pos (by omega)]; done) | (rw [if_pos ⟨by omega, by omega, by omega⟩, if_neg (by omega)]; done) | (rw [if_neg (by omega), Int.add_zero]; done) | (exfalso; omega)
                 · refine ⟨sh361, _, hR.z, ?_⟩
                   refine ⟨_, sh362, ⟨by omega, by omega⟩, ?_⟩
                   refine ⟨sh361, _, hR.z, ?_⟩
                   refine ⟨⟨Nat.zero_le _, Nat.zero_le _, Nat.le_of_ble_eq_true rfl⟩, sh361, ?_⟩
                   refine C_of hG hR (by omega) (by decide) (fun r hr => ?_)
                   have hr : r = tf (I 362) k.toNat 1 := hr
                   subst hr
                   refine af_I0 rfl rfl (by decide) ?_
                   try dsimp only
                   refine B_X10_loss_87 ?_
                   try dsimp only
                   refine ⟨_, (by first | exact sh362 | exact sh365 | exact sh366 | exact sh363 | exact sh364 | exact sh367 | exact sh368), ⟨by omega, by omega⟩, ?_⟩
                   refine ⟨fun c88_8 => ?_, fun c88_8 => ?_⟩
                   · refine B_X10_loss_95 ?_
                     try dsimp only
                     refine B_X10_loss_96 ?_
                     try dsimp only
                     refine ⟨by (refine ⟨?_, ?_⟩ <;> omega), ?_⟩
                     refine B_X10_loss_98 ?_
                     try dsimp only
                     refine ⟨by (refine ⟨?_, ?_⟩ <;> omega), ?_⟩
                     refine ih (w + 1) _ _ _ (by omega) ?_
                     rw [show (w + 1).toNat = w.toNat + 1 by omega]
                     unfold lsN
                     rw [show ((w.toNat : Nat) : Int) = w by omega, hs]
                     first | (rw [if_pos ⟨by omega, by omega, by omega⟩, if_pos (by omega)]; done) | (rw [if_pos ⟨by omega, by omega, by omega⟩, if_neg (by omega)]; done) | (rw [if_neg (by omega), Int.add_zero]; done) | (exfalso; omega)
                   · refine B_X10_loss_96 ?_
                     try dsimp only
                     refine ⟨by (refine ⟨?_, ?_⟩ <;> omega), ?_⟩
                     refine B_X10_loss_98 ?_
                     try dsimp only
                     refine ⟨by (refine ⟨?_, ?_⟩ <;> omega), ?_⟩
                     refine ih (w + 1) _ _ _ (by omega) ?_
                     rw [show (w + 1).toNat = w.toNat + 1 by omega]
                     unfold lsN
                     rw [show ((w.toNat : Nat) : Int) = w by omega, hs]
                     first | (rw [if_pos ⟨by omega, by omega, by omega⟩, if_pos (by omega)]; done) | (rw [if_pos ⟨by omega, by omega, by omega⟩, if_neg (by omega)]; done) | (rw [if_neg (by omega), Int.add_zero]; done) | (exfalso; omega))
        · refine B_X10_loss_45 ?_
          try dsimp only
          refine ⟨fun c50_4 => ?_, fun c50_4 => ?_⟩
          · refine B_X10_loss_98 ?_
            try dsimp only
            refine ⟨by (refine ⟨?_, ?_⟩ <;> omega), ?_⟩
            refine ih (w + 1) _ _ _ (by omega) ?_
            rw [show (w + 1).toNat = w.toNat + 1 by omega]
            unfold lsN
            rw [show ((w.toNat : Nat) : Int) = w by omega, hs]
            first | (rw [if_pos ⟨by omega, by omega, by omega⟩, if_pos (by omega)]; done) | (rw [if_pos ⟨by omega, by omega, by omega⟩, if_neg (by omega)]; done) | (rw [if_neg (by omega), Int.add_zero]; done) | (exfalso; omega)
          · first
              | (exfalso; omega)
              | (refine ⟨⟨Nat.zero_le _, Nat.zero_le _, Nat.le_of_ble_eq_true rfl⟩, sh361, ?_⟩
                 refine C_of hG hR (by omega) (by decide) (fun r hr => ?_)
                 have hr : r = tf (I 362) (tAt (I 362) (nb (tf (I 362) k.toNat 1) w)).toNat 0 := hr
                 subst hr
                 refine af_I0 rfl rfl (by decide) ?_
                 try dsimp only
                 refine B_X10_loss_60 ?_
                 try dsimp only
                 refine ⟨⟨Nat.zero_le _, Nat.zero_le _, Nat.le_of_ble_eq_true rfl⟩, sh361, ?_⟩
                 refine C_of hG hR (by omega) (by decide) (fun r hr => ?_)
                 have hr : r = tf (I 362) k.toNat 0 := hr
                 subst hr
                 refine af_I0 rfl rfl (by decide) ?_
                 try dsimp only
                 refine B_X10_loss_66 ?_
                 try dsimp only
                 refine ⟨fun c66_6 => ?_, fun c66_6 => ?_⟩
                 · refine B_X10_loss_98 ?_
                   try dsimp only
                   refine ⟨by (refine ⟨?_, ?_⟩ <;> omega), ?_⟩
                   refine ih (w + 1) _ _ _ (by omega) ?_
                   rw [show (w + 1).toNat = w.toNat + 1 by omega]
                   unfold lsN
                   rw [show ((w.toNat : Nat) : Int) = w by omega, hs]
                   first | (rw [if_pos ⟨by omega, by omega, by omega⟩, if_pos (by omega)]; done) | (rw [if_pos ⟨by omega, by omega, by omega⟩, if_neg (by omega)]; done) | (rw [if_neg (by omega), Int.add_zero]; done) | (exfalso; omega)
                 · refine ⟨sh361, _, hR.z, ?_⟩
                   refine ⟨_, sh362, ⟨by omega, by omega⟩, ?_⟩
                   refine ⟨sh361, _, hR.z, ?_⟩
                   refine ⟨⟨Nat.zero_le _, Nat.zero_le _, Nat.le_of_ble_eq_true rfl⟩, sh361, ?_⟩
                   refine C_of hG hR (by omega) (by decide) (fun r hr => ?_)
                   have hr : r = tf (I 362) k.toNat 1 := hr
                   subst hr
                   refine af_I0 rfl rfl (by decide) ?_
                   try dsimp only
                   refine B_X10_loss_87 ?_
                   try dsimp only
                   refine ⟨_, (by first | exact sh362 | exact sh365 | exact sh366 | exact sh363 | exact sh364 | exact sh367 | exact sh368), ⟨by omega, by omega⟩, ?_⟩
                   refine ⟨fun c88_7 => ?_, fun c88_7 => ?_⟩
                   · refine B_X10_loss_95 ?_
                     try dsimp only
                     refine B_X10_loss_96 ?_
                     try dsimp only
                     refine ⟨by (refine ⟨?_, ?_⟩ <;> omega), ?_⟩
                     refine B_X10_loss_98 ?_
                     try dsimp only
                     refine ⟨by (refine ⟨?_, ?_⟩ <;> omega), ?_⟩
                     refine ih (w + 1) _ _ _ (by omega) ?_
                     rw [show (w + 1).toNat = w.toNat + 1 by omega]
                     unfold lsN
                     rw [show ((w.toNat : Nat) : Int) = w by omega, hs]
                     first | (rw [if_pos ⟨by omega, by omega, by omega⟩, if_pos (by omega)]; done) | (rw [if_pos ⟨by omega, by omega, by omega⟩, if_neg (by omega)]; done) | (rw [if_neg (by omega), Int.add_zero]; done) | (exfalso; omega)
                   · refine B_X10_loss_96 ?_
                     try dsimp only
                     refine ⟨by (refine ⟨?_, ?_⟩ <;> omega), ?_⟩
                     refine B_X10_loss_98 ?_
                     try dsimp only
                     refine ⟨by (refine ⟨?_, ?_⟩ <;> omega), ?_⟩
                     refine ih (w + 1) _ _ _ (by omega) ?_
                     rw [show (w + 1).toNat = w.toNat + 1 by omega]
                     unfold lsN
                     rw [show ((w.toNat : Nat) : Int) = w by omega, hs]
                     first | (rw [if_pos ⟨by omega, by omega, by omega⟩, if_pos (by omega)]; done) | (rw [if_pos ⟨by omega, by omega, by omega⟩, if_neg (by omega)]; done) | (rw [if_neg (by omega), Int.add_zero]; done) | (exfalso; omega))
theorem C_loss {G : amG} {I : Nat → Nat → Int} {R : Nat → Nat → Option Nat} {L : Nat → Nat → Int64} {x c t : Nat} {Q : amR → amH → Prop} (hG : amG0 G) (hR : RM R) (hh : wfH (I 362)) (hn : wfN (I 362)) {k : Int} (hk : 0 ≤ k ∧ k < I 362 98) (ht : wfT1 (I 362) k.toNat) (h4 : tf (I 362) k.toNat 4 ≠ 2) (hQ : ∀ r : Int, r = lossZ (I 362) k.toNat → Q (Sum.inl (some (aI r))) (I, R, L, SH, x, 0, 0)) : CT G sX10_loss [aR (some 361), aI k] (I, R, L, SH, x, c, t) Q := by
  refine CT_of ok_X10_loss hG (Nat.le_of_ble_eq_true rfl) ?_
  show X G mX10_loss Q 0 _ [] (I, R, L, SH, x, 0, 0)
  refine B_X10_loss_0 ?_
  try dsimp only
  exact L_loss hG hR hh hn hk ht h4 hQ 5 0 0 none none (by decide) rfl
