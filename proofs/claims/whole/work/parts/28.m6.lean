/-! ===== the model: orders are given ===== -/
def wfG (z : Row) : Prop := isC (z 96) ∧ isC (z 97)
theorem opM_all (z : Row) : opM z (-1) = opA := funext (fun t => by
  unfold opM
  exact decide_eq_true (Or.inl rfl))
/-- the turns that an order takes from a cell to troop k -/
def ordT (z : Row) (a : Int) (k : Nat) : Int := if seeI z a (tf z k 1) = 1 then 1 else if dS z a (tf z k 1) = -1 then -1 else (dS z a (tf z k 1) + 2) / 3
/-- from its own general -/
abbrev ordG (z : Row) (k : Nat) : Int := ordT z (z (96 + tf z k 0).toNat) k
theorem ordT_b {z : Row} {a : Int} {k : Nat} (ha : isC a) (hk : wfT1 z k) : -1 ≤ ordT z a k ∧ ordT z a k ≤ 33 := by
  have hc : isC (tf z k 1) := by unfold isC; have := hk.2.1; omega
  have := dS_b (z := z) ha hc
  unfold ordT
  repeat' split
  all_goals omega
def whyN (z : Row) (k : Nat) : Int := if tf z k 4 = 2 then 1 else if ordG z k = -1 then 2 else if z 195 = 30 then 3 else 0
/-- an order more -/
def giveZ (z : Row) (k c : Int) : Row := uz (uz (uz (uz (uz (uz z (196 + 4 * z 195).toNat (z 317)) (196 + 4 * z 195 + 1).toNat k) (196 + 4 * z 195 + 2).toNat c) (196 + 4 * z 195 + 3).toNat (z 316 + ordG z k.toNat)) 317 (z 317 + 1)) 195 (z 195 + 1)
theorem C_distanceOf {G : amG} {I : Nat → Nat → Int} {z f q : Row} {R : Nat → Nat → Option Nat} {L : Nat → Nat → Int64} {x c t : Nat} {Q : amR → amH → Prop} (hG : amG0 G) (hR : RM R) (hh : wfH z) (hn : wfN z) {v w : Int} (hv : isC v) (hw : isC w) (hQ : ∀ f q : Row, Q (Sum.inl (some (aI (dS z v w)))) (m3 I z f q, R, L, SH, x, 0, 0)) : CT G sX10_distanceOf [aR (some 361), aI v, aI w] (m3 I z f q, R, L, SH, x, c, t) Q := by
  refine CT_of ok_X10_distanceOf hG (Nat.le_of_ble_eq_true rfl) ?_
  show X G mX10_distanceOf Q 0 _ [] (m3 I z f q, R, L, SH, x, 0, 0)
  have hw' : 0 ≤ w ∧ w < 96 := hw
  refine B_X10_distanceOf_0 ?_
  try dsimp only
  try simp only [m3_z, m3_f, m3_q, u2_m3_z, u2_m3_f, u2_m3_q, Int.reduceToNat]
  refine ⟨⟨Nat.zero_le _, Nat.zero_le _, Nat.le_of_ble_eq_true rfl⟩, sh361, ?_⟩
  refine C_spread hG hR hh hn hv (fun f2 q2 hd => ?_)
  rw [opM_all] at hd
  refine af_N0 rfl rfl rfl ?_
  try dsimp only
  try simp only [m3_z, m3_f, m3_q, u2_m3_z, u2_m3_f, u2_m3_q, Int.reduceToNat]
  refine B_X10_distanceOf_6 ?_
  try dsimp only
  try simp only [m3_z, m3_f, m3_q, u2_m3_z, u2_m3_f, u2_m3_q, Int.reduceToNat]
  refine ⟨sh361, _, hR.far, ?_⟩
  refine ⟨_, sh365, ⟨by omega, by omega⟩, ?_⟩
  try simp only [m3_z, m3_f, m3_q, u2_m3_z, u2_m3_f, u2_m3_q, Int.reduceToNat]
  have e := dSp_uniq hd (dF_sp hv) hw
  have hQ := hQ f2 q2
  unfold dS at hQ
  rw [← e] at hQ
  exact hQ
theorem C_orderTime {G : amG} {I : Nat → Nat → Int} {z f q : Row} {R : Nat → Nat → Option Nat} {L : Nat → Nat → Int64} {x c t : Nat} {Q : amR → amH → Prop} (hG : amG0 G) (hR : RM R) (hh : wfH z) (hn : wfN z) {v k : Int} (hv : isC v) (hk : 0 ≤ k ∧ k < 12) (ht : wfT1 z k.toNat) (hQ : ∀ f q : Row, Q (Sum.inl (some (aI (ordT z v k.toNat)))) (m3 I z f q, R, L, SH, x, 0, 0)) : CT G sX10_orderTime [aR (some 361), aI v, aI k] (m3 I z f q, R, L, SH, x, c, t) Q := by
  refine CT_of ok_X10_orderTime hG (Nat.le_of_ble_eq_true rfl) ?_
  show X G mX10_orderTime Q 0 _ [] (m3 I z f q, R, L, SH, x, 0, 0)
  have hh' : wfH (m3 I z f q 362) := hh
  refine B_X10_orderTime_0 ?_
  try dsimp only
  try simp only [m3_z, m3_f, m3_q, u2_m3_z, u2_m3_f, u2_m3_q, Int.reduceToNat]
  refine ⟨⟨Nat.zero_le _, Nat.zero_le _, Nat.le_of_ble_eq_true rfl⟩, sh361, ?_⟩
  refine C_of hG hR hk (by decide) (fun r hr => ?_)
  have hr : r = tf z k.toNat 1 := hr
  have hc : isC r := by unfold isC; have := ht.2.1; omega
  refine af_I0 rfl rfl (by decide) ?_
  try dsimp only
  try simp only [m3_z, m3_f, m3_q, u2_m3_z, u2_m3_f, u2_m3_q, Int.reduceToNat]
  refine B_X10_orderTime_6 ?_
  try dsimp only
  try simp only [m3_z, m3_f, m3_q, u2_m3_z, u2_m3_f, u2_m3_q, Int.reduceToNat]
  refine ⟨⟨Nat.zero_le _, Nat.zero_le _, Nat.le_of_ble_eq_true rfl⟩, sh361, ?_⟩
  refine C_isSeen hG hR hh' hv hc (fun r2 hr2 => ?_)
  have hs : (seeI z v r = 1 ∧ r2 = 1) ∨ (seeI z v r = 0 ∧ r2 = 0) := hr2.imp (fun q => ⟨seeI_one q.1, q.2⟩) (fun q => ⟨seeI_zero q.1, q.2⟩)
  refine af_I0 rfl rfl (by decide) ?_
  try dsimp only
  try simp only [m3_z, m3_f, m3_q, u2_m3_z, u2_m3_f, u2_m3_q, Int.reduceToNat]
  refine B_X10_orderTime_13 ?_
  try dsimp only
  try simp only [m3_z, m3_f, m3_q, u2_m3_z, u2_m3_f, u2_m3_q, Int.reduceToNat]
  refine ⟨fun c13_2 => ?_, fun c13_2 => ?_⟩
  · refine B_X10_orderTime_18 ?_
    try dsimp only
    try simp only [m3_z, m3_f, m3_q, u2_m3_z, u2_m3_f, u2_m3_q, Int.reduceToNat]
    refine ⟨⟨Nat.zero_le _, Nat.zero_le _, Nat.le_of_ble_eq_true rfl⟩, sh361, ?_⟩
    refine C_distanceOf hG hR hh hn hv hc (fun f2 q2 => ?_)
    have hb := dS_b (z := z) hv hc
    have td : Int.tdiv (dS z v r + 2) 3 = (dS z v r + 2) / 3 := Int.tdiv_eq_ediv_of_nonneg (by omega)
    refine af_I0 rfl rfl (by decide) ?_
    try dsimp only
    try simp only [m3_z, m3_f, m3_q, u2_m3_z, u2_m3_f, u2_m3_q, Int.reduceToNat]
    refine B_X10_orderTime_24 ?_
    try dsimp only
    try simp only [m3_z, m3_f, m3_q, u2_m3_z, u2_m3_f, u2_m3_q, Int.reduceToNat]
    refine ⟨fun c29_4 => ?_, fun c29_4 => ?_⟩
    · refine B_X10_orderTime_36 ?_
      try dsimp only
      try simp only [m3_z, m3_f, m3_q, u2_m3_z, u2_m3_f, u2_m3_q, Int.reduceToNat]
      refine ⟨by (refine ⟨?_, ?_⟩ <;> omega), ?_⟩
      refine ⟨⟨by decide, by (refine ⟨?_, ?_⟩ <;> omega)⟩, ?_⟩
      refine B_X10_orderTime_42 ?_
      try dsimp only
      try simp only [m3_z, m3_f, m3_q, u2_m3_z, u2_m3_f, u2_m3_q, Int.reduceToNat]
      first
        | (have e : ordT z v k.toNat = 1 := by unfold ordT; rw [← hr, if_pos (by omega)]
           have hQ := hQ f q
           rw [e] at hQ
           exact hQ)
        | (have e : ordT z v k.toNat = -1 := by unfold ordT; rw [← hr, if_neg (by omega), if_pos (by omega)]
           have hQ := hQ f2 q2
           rw [e] at hQ
           exact hQ)
        | (have e : ordT z v k.toNat = Int.tdiv (dS z v r + 2) 3 := by unfold ordT; rw [← hr, if_neg (by omega), if_neg (by omega), Int.tdiv_eq_ediv_of_nonneg (by omega)]
           have hQ := hQ f2 q2
           rw [e] at hQ
           exact hQ)
    · refine B_X10_orderTime_42 ?_
      try dsimp only
      try simp only [m3_z, m3_f, m3_q, u2_m3_z, u2_m3_f, u2_m3_q, Int.reduceToNat]
      first
        | (have e : ordT z v k.toNat = 1 := by unfold ordT; rw [← hr, if_pos (by omega)]
           have hQ := hQ f q
           rw [e] at hQ
           exact hQ)
        | (have e : ordT z v k.toNat = -1 := by unfold ordT; rw [← hr, if_neg (by omega), if_pos (by omega)]
           have hQ := hQ f2 q2
           rw [e] at hQ
           exact hQ)
        | (have e : ordT z v k.toNat = Int.tdiv (dS z v r + 2) 3 := by unfold ordT; rw [← hr, if_neg (by omega), if_neg (by omega), Int.tdiv_eq_ediv_of_nonneg (by omega)]
           have hQ := hQ f2 q2
           rw [e] at hQ
           exact hQ)
  · first
      | (have e : ordT z v k.toNat = 1 := by unfold ordT; rw [← hr, if_pos (by omega)]
         have hQ := hQ f q
         rw [e] at hQ
         exact hQ)
      | (have e : ordT z v k.toNat = -1 := by unfold ordT; rw [← hr, if_neg (by omega), if_pos (by omega)]
         have hQ := hQ f2 q2
         rw [e] at hQ
         exact hQ)
      | (have e : ordT z v k.toNat = Int.tdiv (dS z v r + 2) 3 := by unfold ordT; rw [← hr, if_neg (by omega), if_neg (by omega), Int.tdiv_eq_ediv_of_nonneg (by omega)]
         have hQ := hQ f2 q2
         rw [e] at hQ
         exact hQ)
theorem C_whyNot {G : amG} {I : Nat → Nat → Int} {z f q : Row} {R : Nat → Nat → Option Nat} {L : Nat → Nat → Int64} {x c t : Nat} {Q : amR → amH → Prop} (hG : amG0 G) (hR : RM R) (hh : wfH z) (hn : wfN z) (ht : wfT z) (hg : wfG z) {k : Int} (hk : 0 ≤ k ∧ k < z 98) (hQ : ∀ f q : Row, Q (Sum.inl (some (aI (whyN z k.toNat)))) (m3 I z f q, R, L, SH, x, 0, 0)) : CT G sX10_whyNot [aR (some 361), aI k] (m3 I z f q, R, L, SH, x, c, t) Q := by
  refine CT_of ok_X10_whyNot hG (Nat.le_of_ble_eq_true rfl) ?_
  show X G mX10_whyNot Q 0 _ [] (m3 I z f q, R, L, SH, x, 0, 0)
  have hn1 := hn.1
  have hn2 := hn.2
  have hT := ht k.toNat (by omega)
  have hT' := hT
  unfold wfT1 at hT'
  have hg' : (0 ≤ z 96 ∧ z 96 < 96) ∧ (0 ≤ z 97 ∧ z 97 < 96) := hg
  have hgg : isC (z (96 + tf z k.toNat 0).toNat) := by
    rcases (by omega : tf z k.toNat 0 = 0 ∨ tf z k.toNat 0 = 1) with e | e
    · rw [e]; exact hg.1
    · rw [e]; exact hg.2
  have hh' : wfH (m3 I z f q 362) := hh
  refine B_X10_whyNot_0 ?_
  try dsimp only
  try simp only [m3_z, m3_f, m3_q, u2_m3_z, u2_m3_f, u2_m3_q, Int.reduceToNat]
  refine ⟨⟨Nat.zero_le _, Nat.zero_le _, Nat.le_of_ble_eq_true rfl⟩, sh361, ?_⟩
  refine C_isGone hG hR (by omega) (fun r hr => ?_)
  have hr : (tf z k.toNat 4 = 2 ∧ r = 1) ∨ (tf z k.toNat 4 ≠ 2 ∧ r = 0) := hr
  refine af_I0 rfl rfl (by decide) ?_
  try dsimp only
  try simp only [m3_z, m3_f, m3_q, u2_m3_z, u2_m3_f, u2_m3_q, Int.reduceToNat]
  refine B_X10_whyNot_5 ?_
  try dsimp only
  try simp only [m3_z, m3_f, m3_q, u2_m3_z, u2_m3_f, u2_m3_q, Int.reduceToNat]
  refine ⟨fun c5_1 => ?_, fun c5_1 => ?_⟩
  · refine B_X10_whyNot_10 ?_
    try dsimp only
    try simp only [m3_z, m3_f, m3_q, u2_m3_z, u2_m3_f, u2_m3_q, Int.reduceToNat]
    refine ⟨sh361, _, hR.z, ?_⟩
    refine ⟨⟨Nat.zero_le _, Nat.zero_le _, Nat.le_of_ble_eq_true rfl⟩, sh361, ?_⟩
    refine C_of hG hR (by omega) (by decide) (fun r hr => ?_)
    have hr : r = tf z k.toNat 0 := hr
    subst hr
    refine af_I0 rfl rfl (by decide) ?_
    try dsimp only
    try simp only [m3_z, m3_f, m3_q, u2_m3_z, u2_m3_f, u2_m3_q, Int.reduceToNat]
    refine B_X10_whyNot_23 ?_
    try dsimp only
    try simp only [m3_z, m3_f, m3_q, u2_m3_z, u2_m3_f, u2_m3_q, Int.reduceToNat]
    refine ⟨by (refine ⟨?_, ?_⟩ <;> omega), ?_⟩
    refine ⟨_, (by first | exact sh362 | exact sh365 | exact sh366 | exact sh363 | exact sh364 | exact sh367 | exact sh368), ⟨by omega, by omega⟩, ?_⟩
    try simp only [m3_z, m3_f, m3_q, u2_m3_z, u2_m3_f, u2_m3_q, Int.reduceToNat]
    refine ⟨⟨Nat.zero_le _, Nat.zero_le _, Nat.le_of_ble_eq_true rfl⟩, sh361, ?_⟩
    refine C_orderTime hG hR hh hn hgg (by omega) hT (fun f2 q2 => ?_)
    have hb := ordT_b hgg hT
    refine af_I0 rfl rfl (by decide) ?_
    try dsimp only
    try simp only [m3_z, m3_f, m3_q, u2_m3_z, u2_m3_f, u2_m3_q, Int.reduceToNat]
    refine B_X10_whyNot_29 ?_
    try dsimp only
    try simp only [m3_z, m3_f, m3_q, u2_m3_z, u2_m3_f, u2_m3_q, Int.reduceToNat]
    refine ⟨fun c30_4 => ?_, fun c30_4 => ?_⟩
    · refine B_X10_whyNot_37 ?_
      try dsimp only
      try simp only [m3_z, m3_f, m3_q, u2_m3_z, u2_m3_f, u2_m3_q, Int.reduceToNat]
      refine ⟨sh361, _, hR.z, ?_⟩
      refine ⟨_, sh362, ⟨by omega, by omega⟩, ?_⟩
      try simp only [m3_z, m3_f, m3_q, u2_m3_z, u2_m3_f, u2_m3_q, Int.reduceToNat]
      refine ⟨fun c47_5 => ?_, fun c47_5 => ?_⟩
      · refine B_X10_whyNot_54 ?_
        try dsimp only
        try simp only [m3_z, m3_f, m3_q, u2_m3_z, u2_m3_f, u2_m3_q, Int.reduceToNat]
        refine B_X10_whyNot_55 ?_
        try dsimp only
        try simp only [m3_z, m3_f, m3_q, u2_m3_z, u2_m3_f, u2_m3_q, Int.reduceToNat]
        first
          | (have e : whyN z k.toNat = 1 := by unfold whyN ordG; rw [if_pos (by omega)]
             have hQ := hQ f q
             rw [e] at hQ
             exact hQ)
          | (have e : whyN z k.toNat = 3 := by unfold whyN ordG; rw [if_neg (by omega), if_neg (by omega), if_pos (by omega)]
             have hQ := hQ f2 q2
             rw [e] at hQ
             exact hQ)
          | (have e : whyN z k.toNat = 0 := by unfold whyN ordG; rw [if_neg (by omega), if_neg (by omega), if_neg (by omega)]
             have hQ := hQ f2 q2
             rw [e] at hQ
             exact hQ)
          | (have e : whyN z k.toNat = 2 := by unfold whyN ordG; rw [if_neg (by omega), if_pos (by omega)]
             have hQ := hQ f2 q2
             rw [e] at hQ
             exact hQ)
      · refine B_X10_whyNot_55 ?_
        try dsimp only
        try simp only [m3_z, m3_f, m3_q, u2_m3_z, u2_m3_f, u2_m3_q, Int.reduceToNat]
        first
          | (have e : whyN z k.toNat = 1 := by unfold whyN ordG; rw [if_pos (by omega)]
             have hQ := hQ f q
             rw [e] at hQ
             exact hQ)
          | (have e : whyN z k.toNat = 3 := by unfold whyN ordG; rw [if_neg (by omega), if_neg (by omega), if_pos (by omega)]
             have hQ := hQ f2 q2
             rw [e] at hQ
             exact hQ)
          | (have e : whyN z k.toNat = 0 := by unfold whyN ordG; rw [if_neg (by omega), if_neg (by omega), if_neg (by omega)]
             have hQ := hQ f2 q2
             rw [e] at hQ
             exact hQ)
          | (have e : whyN z k.toNat = 2 := by unfold whyN ordG; rw [if_neg (by omega), if_pos (by omega)]
             have hQ := hQ f2 q2
             rw [e] at hQ
             exact hQ)
    · refine B_X10_whyNot_55 ?_
      try dsimp only
      try simp only [m3_z, m3_f, m3_q, u2_m3_z, u2_m3_f, u2_m3_q, Int.reduceToNat]
      first
        | (have e : whyN z k.toNat = 1 := by unfold whyN ordG; rw [if_pos (by omega)]
           have hQ := hQ f q
           rw [e] at hQ
           exact hQ)
        | (have e : whyN z k.toNat = 3 := by unfold whyN ordG; rw [if_neg (by omega), if_neg (by omega), if_pos (by omega)]
           have hQ := hQ f2 q2
           rw [e] at hQ
           exact hQ)
        | (have e : whyN z k.toNat = 0 := by unfold whyN ordG; rw [if_neg (by omega), if_neg (by omega), if_neg (by omega)]
           have hQ := hQ f2 q2
           rw [e] at hQ
           exact hQ)
        | (have e : whyN z k.toNat = 2 := by unfold whyN ordG; rw [if_neg (by omega), if_pos (by omega)]
           have hQ := hQ f2 q2
           rw [e] at hQ
           exact hQ)
  · first
      | (have e : whyN z k.toNat = 1 := by unfold whyN ordG; rw [if_pos (by omega)]
         have hQ := hQ f q
         rw [e] at hQ
         exact hQ)
      | (have e : whyN z k.toNat = 3 := by unfold whyN ordG; rw [if_neg (by omega), if_neg (by omega), if_pos (by omega)]
         have hQ := hQ f2 q2
         rw [e] at hQ
         exact hQ)
      | (have e : whyN z k.toNat = 0 := by unfold whyN ordG; rw [if_neg (by omega), if_neg (by omega), if_neg (by omega)]
         have hQ := hQ f2 q2
         rw [e] at hQ
         exact hQ)
      | (have e : whyN z k.toNat = 2 := by unfold whyN ordG; rw [if_neg (by omega), if_pos (by omega)]
         have hQ := hQ f2 q2
         rw [e] at hQ
         exact hQ)
theorem C_give {G : amG} {I : Nat → Nat → Int} {z f q : Row} {R : Nat → Nat → Option Nat} {L : Nat → Nat → Int64} {x c t : Nat} {Q : amR → amH → Prop} (hG : amG0 G) (hR : RM R) (hh : wfH z) (hn : wfN z) (ht : wfT z) (hg : wfG z) {k : Int} (hk : 0 ≤ k ∧ k < z 98) {v : Int} (hord : 0 ≤ z 195 ∧ z 195 < 30) (htu : 0 ≤ z 316 ∧ z 316 ≤ 100000) (hgi : 0 ≤ z 317 ∧ z 317 ≤ 100000) (hQ : ∀ f q : Row, Q (Sum.inl (some (aI (ordG z k.toNat)))) (m3 I (giveZ z k v) f q, R, L, SH, x, 0, 0)) : CT G sX10_give [aR (some 361), aI k, aI v] (m3 I z f q, R, L, SH, x, c, t) Q := by
  refine CT_of ok_X10_give hG (Nat.le_of_ble_eq_true rfl) ?_
  show X G mX10_give Q 0 _ [] (m3 I z f q, R, L, SH, x, 0, 0)
  have hn1 := hn.1
  have hn2 := hn.2
  have hT := ht k.toNat (by omega)
  have hT' := hT
  unfold wfT1 at hT'
  have hg' : (0 ≤ z 96 ∧ z 96 < 96) ∧ (0 ≤ z 97 ∧ z 97 < 96) := hg
  have hgg : isC (z (96 + tf z k.toNat 0).toNat) := by
    rcases (by omega : tf z k.toNat 0 = 0 ∨ tf z k.toNat 0 = 1) with e | e
    · rw [e]; exact hg.1
    · rw [e]; exact hg.2
  have hh' : wfH (m3 I z f q 362) := hh
  refine B_X10_give_0 ?_
  try dsimp only
  try simp (disch := omega) only [m3_z, m3_f, m3_q, u2_m3_z, u2_m3_f, u2_m3_q, uz_ne, uz_same, Int.reduceToNat]
  refine ⟨sh361, _, hR.z, ?_⟩
  refine ⟨⟨Nat.zero_le _, Nat.zero_le _, Nat.le_of_ble_eq_true rfl⟩, sh361, ?_⟩
  refine C_of hG hR (by omega) (by decide) (fun r hr => ?_)
  have hr : r = tf z k.toNat 0 := hr
  subst hr
  refine af_I0 rfl rfl (by decide) ?_
  try dsimp only
  try simp (disch := omega) only [m3_z, m3_f, m3_q, u2_m3_z, u2_m3_f, u2_m3_q, uz_ne, uz_same, Int.reduceToNat]
  refine B_X10_give_13 ?_
  try dsimp only
  try simp (disch := omega) only [m3_z, m3_f, m3_q, u2_m3_z, u2_m3_f, u2_m3_q, uz_ne, uz_same, Int.reduceToNat]
  refine ⟨by (refine ⟨?_, ?_⟩ <;> omega), ?_⟩
  refine ⟨_, (by first | exact sh362 | exact sh365 | exact sh366 | exact sh363 | exact sh364 | exact sh367 | exact sh368), ⟨by omega, by omega⟩, ?_⟩
  try simp (disch := omega) only [m3_z, m3_f, m3_q, u2_m3_z, u2_m3_f, u2_m3_q, uz_ne, uz_same, Int.reduceToNat]
  refine ⟨⟨Nat.zero_le _, Nat.zero_le _, Nat.le_of_ble_eq_true rfl⟩, sh361, ?_⟩
  refine C_orderTime hG hR hh hn hgg (by omega) hT (fun f2 q2 => ?_)
  have hb := ordT_b hgg hT
  refine af_I0 rfl rfl (by decide) ?_
  try dsimp only
  try simp (disch := omega) only [m3_z, m3_f, m3_q, u2_m3_z, u2_m3_f, u2_m3_q, uz_ne, uz_same, Int.reduceToNat]
  refine B_X10_give_19 ?_
  try dsimp only
  try simp (disch := omega) only [m3_z, m3_f, m3_q, u2_m3_z, u2_m3_f, u2_m3_q, uz_ne, uz_same, Int.reduceToNat]
  refine ⟨sh361, _, hR.z, ?_⟩
  refine ⟨_, sh362, ⟨by omega, by omega⟩, ?_⟩
  try simp (disch := omega) only [m3_z, m3_f, m3_q, u2_m3_z, u2_m3_f, u2_m3_q, uz_ne, uz_same, Int.reduceToNat]
  refine ⟨by (refine ⟨?_, ?_⟩ <;> omega), ?_⟩
  refine ⟨by (refine ⟨?_, ?_⟩ <;> omega), ?_⟩
  refine ⟨sh361, _, hR.z, ?_⟩
  refine ⟨sh361, _, hR.z, ?_⟩
  refine ⟨_, sh362, ⟨by omega, by omega⟩, ?_⟩
  try simp (disch := omega) only [m3_z, m3_f, m3_q, u2_m3_z, u2_m3_f, u2_m3_q, uz_ne, uz_same, Int.reduceToNat]
  refine ⟨_, sh362, ⟨by omega, by omega⟩, ?_⟩
  try simp (disch := omega) only [m3_z, m3_f, m3_q, u2_m3_z, u2_m3_f, u2_m3_q, uz_ne, uz_same, Int.reduceToNat]
  refine ⟨sh361, _, hR.z, ?_⟩
  refine ⟨by (refine ⟨?_, ?_⟩ <;> omega), ?_⟩
  refine ⟨_, sh362, ⟨by omega, by omega⟩, ?_⟩
  try simp (disch := omega) only [m3_z, m3_f, m3_q, u2_m3_z, u2_m3_f, u2_m3_q, uz_ne, uz_same, Int.reduceToNat]
  refine ⟨sh361, _, hR.z, ?_⟩
  refine ⟨by (refine ⟨?_, ?_⟩ <;> omega), ?_⟩
  refine ⟨_, sh362, ⟨by omega, by omega⟩, ?_⟩
  try simp (disch := omega) only [m3_z, m3_f, m3_q, u2_m3_z, u2_m3_f, u2_m3_q, uz_ne, uz_same, Int.reduceToNat]
  refine ⟨sh361, _, hR.z, ?_⟩
  refine ⟨by (refine ⟨?_, ?_⟩ <;> omega), ?_⟩
  refine ⟨sh361, _, hR.z, ?_⟩
  refine ⟨_, sh362, ⟨by omega, by omega⟩, ?_⟩
  try simp (disch := omega) only [m3_z, m3_f, m3_q, u2_m3_z, u2_m3_f, u2_m3_q, uz_ne, uz_same, Int.reduceToNat]
  refine ⟨by (refine ⟨?_, ?_⟩ <;> omega), ?_⟩
  refine ⟨_, sh362, ⟨by omega, by omega⟩, ?_⟩
  try simp (disch := omega) only [m3_z, m3_f, m3_q, u2_m3_z, u2_m3_f, u2_m3_q, uz_ne, uz_same, Int.reduceToNat]
  refine ⟨sh361, _, hR.z, ?_⟩
  refine ⟨⟨rfl, rfl⟩, ?_⟩
  refine ⟨_, sh362, ⟨by omega, by omega⟩, ?_⟩
  try simp (disch := omega) only [m3_z, m3_f, m3_q, u2_m3_z, u2_m3_f, u2_m3_q, uz_ne, uz_same, Int.reduceToNat]
  refine ⟨by (refine ⟨?_, ?_⟩ <;> omega), ?_⟩
  refine ⟨_, sh362, ⟨by omega, by omega⟩, ?_⟩
  try simp (disch := omega) only [m3_z, m3_f, m3_q, u2_m3_z, u2_m3_f, u2_m3_q, uz_ne, uz_same, Int.reduceToNat]
  refine ⟨sh361, _, hR.z, ?_⟩
  refine ⟨⟨rfl, rfl⟩, ?_⟩
  refine ⟨_, sh362, ⟨by omega, by omega⟩, ?_⟩
  try simp (disch := omega) only [m3_z, m3_f, m3_q, u2_m3_z, u2_m3_f, u2_m3_q, uz_ne, uz_same, Int.reduceToNat]
  refine ⟨by (refine ⟨?_, ?_⟩ <;> omega), ?_⟩
  refine ⟨_, sh362, ⟨by omega, by omega⟩, ?_⟩
  try simp (disch := omega) only [m3_z, m3_f, m3_q, u2_m3_z, u2_m3_f, u2_m3_q, uz_ne, uz_same, Int.reduceToNat]
  have hQ := hQ f2 q2
  unfold giveZ at hQ
  exact hQ
