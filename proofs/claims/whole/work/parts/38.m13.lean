theorem L_comeC {G : amG} {I : Nat → Nat → Int} {R : Nat → Nat → Option Nat} {L : Nat → Nat → Int64} {x : Nat} {Q : amR → amH → Prop} (hG : amG0 G) (hR : RM R) {y f q : Row} {l k m : Int} (hl : 0 ≤ l ∧ l ≤ k) (hk : 0 ≤ k ∧ k < 30) (hK : X G mX10_comeAll Q 112 [some (aR (some 361)), some (aI l), some (aI m), some (aI k), some (aI (196 + 4 * k)), some (aI 4)] [] (m3 I (cpZ y k.toNat l.toNat 4) f q, R, L, SH, x, 0, 0)) :
    ∀ (n : Nat) (i : Int), 0 ≤ i ∧ i ≤ 4 ∧ 4 - i < n → X G mX10_comeAll Q 75 [some (aR (some 361)), some (aI l), some (aI m), some (aI k), some (aI (196 + 4 * k)), some (aI i)] [] (m3 I (cpZ y k.toNat l.toNat i.toNat) f q, R, L, SH, x, 0, 0) := by
  intro n
  induction n with
  | zero =>
    intros
    exfalso; omega
  | succ n ih =>
    intro i h1
    have hs := cpZ_s y k.toNat l.toNat i.toNat
    refine B_X10_comeAll_75 ?_
    try dsimp only
    try simp only [m3_z, u2_m3_z]
    refine ⟨fun c78_0 => ?_, fun c78_0 => ?_⟩
    · have e : i = 4 := by omega
      rw [e]
      exact hK
    · refine ⟨sh361, _, hR.z, ?_⟩
      refine ⟨by (refine ⟨?_, ?_⟩ <;> omega), ?_⟩
      refine ⟨by (refine ⟨?_, ?_⟩ <;> omega), ?_⟩
      refine ⟨by (refine ⟨?_, ?_⟩ <;> omega), ?_⟩
      refine ⟨sh361, _, hR.z, ?_⟩
      refine ⟨by (refine ⟨?_, ?_⟩ <;> omega), ?_⟩
      refine ⟨_, sh362, ⟨by omega, by omega⟩, ?_⟩
      try simp only [m3_z, u2_m3_z]
      refine ⟨_, sh362, ⟨by omega, by omega⟩, ?_⟩
      try simp only [m3_z, u2_m3_z]
      refine ⟨by (refine ⟨?_, ?_⟩ <;> omega), ?_⟩
      have e := ih (i + 1) (by omega)
      rw [show (i + 1).toNat = i.toNat + 1 by omega, hs] at e
      rw [show (196 + 4 * l + i).toNat = 196 + 4 * l.toNat + i.toNat by omega, show (196 + 4 * k + i).toNat = 196 + 4 * k.toNat + i.toNat by omega]
      exact e
theorem L_comeAll {G : amG} {I : Nat → Nat → Int} {R : Nat → Nat → Option Nat} {L : Nat → Nat → Int64} {x : Nat} {Q : amR → amH → Prop} (hG : amG0 G) (hR : RM R) {z f q : Row} (ho : ∀ k : Nat, (k : Int) < z 195 → (0 ≤ z (196 + 4 * k + 1) ∧ z (196 + 4 * k + 1) < 12) ∧ isC (z (196 + 4 * k + 2))) (h30 : 0 ≤ z 195 ∧ z 195 ≤ 30) (hcm : ∀ l : Nat, l < 12 → 0 ≤ tf z l 7 ∧ tf z l 7 ≤ 900000) (hmi : 0 ≤ z 318 ∧ z 318 ≤ 900000) (hQ : Q (Sum.inl none) (m3 I (comeAllZ z) f q, R, L, SH, x, 0, 0)) :
    ∀ (n : Nat) (k : Int) (l4 l5 : Option amV), 0 ≤ k ∧ k ≤ z 195 ∧ z 195 - k < n → X G mX10_comeAll Q 13 [some (aR (some 361)), some (aI (cmS z k.toNat).2), some (aI (z 195)), some (aI k), l4, l5] [] (m3 I (cmS z k.toNat).1 f q, R, L, SH, x, 0, 0) := by
  intro n
  induction n with
  | zero =>
    intros
    exfalso; omega
  | succ n ih =>
    intro k l4 l5 h1
    have hI := cm_inv (z := z) ho h30.2 k.toNat (by omega)
    have hs := cmS_s z k.toNat
    have hd1 : (196 + 4 * k + 1).toNat = 196 + 4 * k.toNat + 1 := by omega
    have hd2 : (196 + 4 * k + 2).toNat = 196 + 4 * k.toNat + 2 := by omega
    have hd3 : (196 + 4 * k + 3).toNat = 196 + 4 * k.toNat + 3 := by omega
    have hQ' : k = z 195 → Q (Sum.inl none) (m3 I (uz (cmS z k.toNat).1 195 (cmS z k.toNat).2) f q, R, L, SH, x, 0, 0) := fun e => by rw [e]; exact hQ
    generalize cmS z k.toNat = S at *
    have hI1 := hI.1
    refine B_X10_comeAll_13 ?_
    try dsimp only
    try simp only [m3_z, u2_m3_z]
    refine ⟨fun c15_0 => ?_, fun c15_0 => ?_⟩
    · refine B_X10_comeAll_121 ?_
      try dsimp only
      try simp only [m3_z, u2_m3_z]
      refine ⟨sh361, _, hR.z, ?_⟩
      refine ⟨_, sh362, ⟨by omega, by omega⟩, ?_⟩
      try simp only [m3_z, u2_m3_z]
      refine ⟨rfl, ?_⟩
      exact hQ' (by omega)
    · have hok := ho k.toNat (by omega)
      have e1 := hI.2.1 (196 + 4 * k.toNat + 1) (by omega) (by omega)
      have hok1 := hok.1
      rw [← e1] at hok1
      have hc7 := hI.2.2.2.2.1 (S.1 (196 + 4 * k.toNat + 1)).toNat (by omega)
      have hc8 := hcm (S.1 (196 + 4 * k.toNat + 1)).toNat (by omega)
      have h8 := hI.2.2.1
      refine ⟨by (refine ⟨?_, ?_⟩ <;> omega), ?_⟩
      refine ⟨by (refine ⟨?_, ?_⟩ <;> omega), ?_⟩
      refine ⟨sh361, _, hR.z, ?_⟩
      refine ⟨by (refine ⟨?_, ?_⟩ <;> omega), ?_⟩
      refine ⟨_, sh362, ⟨by omega, by omega⟩, ?_⟩
      try simp only [m3_z, u2_m3_z]
      refine ⟨sh361, _, hR.z, ?_⟩
      refine ⟨_, sh362, ⟨by omega, by omega⟩, ?_⟩
      try simp only [m3_z, u2_m3_z]
      refine ⟨fun c44_0 => ?_, fun c44_0 => ?_⟩
      · refine B_X10_comeAll_72 ?_
        try dsimp only
        try simp only [m3_z, u2_m3_z]
        refine L_comeC hG hR (by omega) (by omega) ?_ 5 0 (by decide)
        refine B_X10_comeAll_112 ?_
        try dsimp only
        try simp only [m3_z, u2_m3_z]
        refine ⟨by (refine ⟨?_, ?_⟩ <;> omega), ?_⟩
        refine B_X10_comeAll_115 ?_
        try dsimp only
        try simp only [m3_z, u2_m3_z]
        refine ⟨by (refine ⟨?_, ?_⟩ <;> omega), ?_⟩
        have e := ih (k + 1) (some (aI (196 + 4 * k))) (some (aI 4)) (by omega)
        rw [show (k + 1).toNat = k.toNat + 1 by omega, hs] at e
        rw [hd3] at *
        rw [if_neg (by assumption)] at e
        exact e
      · refine ⟨sh361, _, hR.z, ?_⟩
        refine ⟨by (refine ⟨?_, ?_⟩ <;> omega), ?_⟩
        refine ⟨_, sh362, ⟨by omega, by omega⟩, ?_⟩
        try simp only [m3_z, u2_m3_z]
        refine ⟨sh361, _, hR.z, ?_⟩
        refine ⟨by (refine ⟨?_, ?_⟩ <;> omega), ?_⟩
        refine ⟨_, sh362, ⟨by omega, by omega⟩, ?_⟩
        try simp only [m3_z, u2_m3_z]
        refine ⟨⟨Nat.zero_le _, Nat.zero_le _, Nat.le_of_ble_eq_true rfl⟩, sh361, ?_⟩
        rw [hd1, hd2]
        refine C_come hG hR (by omega) (by unfold tf at hc7 hc8; omega) (by omega) ?_
        refine af_N0 rfl rfl rfl ?_
        try dsimp only
        try simp only [m3_z, u2_m3_z]
        refine B_X10_comeAll_69 ?_
        try dsimp only
        try simp only [m3_z, u2_m3_z]
        refine B_X10_comeAll_115 ?_
        try dsimp only
        try simp only [m3_z, u2_m3_z]
        refine ⟨by (refine ⟨?_, ?_⟩ <;> omega), ?_⟩
        have e := ih (k + 1) (some (aI (196 + 4 * k))) l5 (by omega)
        rw [show (k + 1).toNat = k.toNat + 1 by omega, hs] at e
        rw [hd3] at *
        rw [if_pos (by omega)] at e
        exact e
theorem C_comeAll {G : amG} {I : Nat → Nat → Int} {z f q : Row} {R : Nat → Nat → Option Nat} {L : Nat → Nat → Int64} {x c t : Nat} {Q : amR → amH → Prop} (hG : amG0 G) (hR : RM R) (ho : ∀ k : Nat, (k : Int) < z 195 → (0 ≤ z (196 + 4 * k + 1) ∧ z (196 + 4 * k + 1) < 12) ∧ isC (z (196 + 4 * k + 2))) (h30 : 0 ≤ z 195 ∧ z 195 ≤ 30) (hcm : ∀ l : Nat, l < 12 → 0 ≤ tf z l 7 ∧ tf z l 7 ≤ 900000) (hmi : 0 ≤ z 318 ∧ z 318 ≤ 900000) (hQ : Q (Sum.inl none) (m3 I (comeAllZ z) f q, R, L, SH, x, 0, 0)) : CT G sX10_comeAll [aR (some 361)] (m3 I z f q, R, L, SH, x, c, t) Q := by
  refine CT_of ok_X10_comeAll hG (Nat.le_of_ble_eq_true rfl) ?_
  show X G mX10_comeAll Q 0 _ [] (m3 I z f q, R, L, SH, x, 0, 0)
  refine B_X10_comeAll_0 ?_
  try dsimp only
  try simp only [m3_z, u2_m3_z]
  refine ⟨sh361, _, hR.z, ?_⟩
  refine ⟨_, sh362, ⟨by omega, by omega⟩, ?_⟩
  try simp only [m3_z, u2_m3_z]
  exact L_comeAll hG hR ho h30 hcm hmi hQ 31 0 none none (by omega)
