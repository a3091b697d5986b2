/-! ===== the model: the digest ===== -/
def fig (d : OD) (w : Int) : Int := if w = 0 then d.1 else if w = 1 then d.2.1 else if w = 2 then d.2.2.1 else d.2.2.2
/-- the order that lies at a place when they are sorted -/
def uwZ (z : Row) (p : Nat) (w : Int) : Int := fig ((srt (os z (z 195).toNat)).getD p (0, 0, 0, 0)) w
theorem fig_od (z : Row) (o : Nat) {w : Int} (hw : 0 ≤ w ∧ w ≤ 3) : fig (od z o) w = z (196 + 4 * o + w.toNat) := by
  unfold fig od
  rcases (by omega : w = 0 ∨ w = 1 ∨ w = 2 ∨ w = 3) with e | e | e | e <;> subst e <;> rfl
theorem uwZ_is {z : Row} {o p : Nat} {w : Int} (hw : 0 ≤ w ∧ w ≤ 3) (ho : (o : Int) < z 195) (hr : rkN z o (z 195).toNat = p) : z (196 + 4 * o + w.toNat) = uwZ z p w := by
  have e := rk_at z (z 195).toNat o (by omega)
  rw [hr, show ((p : Int)).toNat = p by omega] at e
  unfold uwZ
  rw [List.getD_eq_getElem?_getD, e]
  exact (fig_od z o hw).symm
theorem uw_ex {z : Row} {p : Int} (h0 : 0 ≤ p) (h1 : p < z 195) : ∃ o : Nat, (o : Int) < z 195 ∧ rkN z o (z 195).toNat = p := by
  obtain ⟨o, o1, o2⟩ := rk_onto z (z 195).toNat p.toNat (by omega)
  exact ⟨o, by omega, by rw [o2]; omega⟩
abbrev F1 (z : Row) (sv : Int) (w : Nat) : Int := if (w : Int) = 13 then sv else cntZ z w
abbrev F2 (z : Row) (k : Nat) : Int := ceN z ((k : Int) / 3) ((k : Int) % 3)
abbrev F3 (z : Row) (k : Nat) (w : Nat) : Int := trN z k w
abbrev F4 (z : Row) (k : Nat) : Int := uwZ z (k / 4) ((k : Int) % 4)
def dgT (z : Row) (h : Int64) : Nat → Int64
  | 0 => h
  | n + 1 => mx (mxN (F3 z n) (dgT z h n) 9) (Int64.ofInt (whyN z n))
theorem dgT_s (z : Row) (h : Int64) (n : Nat) : dgT z h (n + 1) = mx (mxN (F3 z n) (dgT z h n) 9) (Int64.ofInt (whyN z n)) := rfl
def dgB (z : Row) (sv : Int) (h : Int64) : Int64 := mxN (F4 z) (dgT z (mxN (F2 z) (mxN (F1 z sv) h 14) 288) (z 98).toNat) (4 * z 195).toNat
def dgA (z : Row) (sv : Int) (h : Int64) : Int64 := mx (mx (dgB z sv h) (Int64.ofInt (sfN z (z 96) 96))) (Int64.ofInt (sfN z (z 97) 96))
theorem L_mx1 {G : amG} {I : Nat → Nat → Int} {R : Nat → Nat → Option Nat} {L : Nat → Nat → Int64} {x : Nat} {Q : amR → amH → Prop} (hG : amG0 G) (hR : RM R) {z f q : Row} {h : Int64} (hW : WF z) (hK : X G mX10_mixAll Q 24 [some (aR (some 361)), some (aI 14), none] [] (m3 I z f q, R, u2 L 361 13 (mxN (F1 z (I 361 2)) h 14), SH, x, 0, 0)) :
    ∀ (n : Nat) (j : Int), (0 ≤ j ∧ j ≤ 14 ∧ 14 - j < n) → X G mX10_mixAll Q 2 [some (aR (some 361)), some (aI j), none] [] (m3 I z f q, R, u2 L 361 13 (mxN (F1 z (I 361 2)) h j.toNat), SH, x, 0, 0) := by
  intro n
  induction n with
  | zero =>
    intros
    exfalso; omega
  | succ n ih =>
    intro j h1
    have hs := mxN_s (F1 z (I 361 2)) h j.toNat
    refine B_X10_mixAll_2 ?_
    try dsimp only
    try simp only [m3_z, m3_f, m3_q, u2_m3_z, u2_m3_f, u2_m3_q, Int.reduceToNat]
    refine ⟨fun c5_0 => ?_, fun c5_0 => ?_⟩
    · have e : j = 14 := by omega
      rw [e]
      exact hK
    · refine ⟨⟨Nat.zero_le _, Nat.zero_le _, Nat.le_of_ble_eq_true rfl⟩, sh361, ?_⟩
      refine C_counted hG hR (I := m3 I z f q) hW.1.2.1 hW.1.2.2.1 (by omega) (fun r hr => ?_)
      have hr : r = F1 z (I 361 2) j.toNat := by
        rw [hr]
        show (if j = 13 then I 361 2 else cntZ z j) = (if ((j.toNat : Nat) : Int) = 13 then I 361 2 else cntZ z (j.toNat : Nat))
        rw [show ((j.toNat : Nat) : Int) = j by omega]
      refine af_I0 rfl rfl (by decide) ?_
      try dsimp only
      try simp only [m3_z, m3_f, m3_q, u2_m3_z, u2_m3_f, u2_m3_q, Int.reduceToNat]
      refine B_X10_mixAll_14 ?_
      try dsimp only
      try simp only [m3_z, m3_f, m3_q, u2_m3_z, u2_m3_f, u2_m3_q, Int.reduceToNat]
      refine ⟨⟨Nat.zero_le _, Nat.zero_le _, Nat.le_of_ble_eq_true rfl⟩, sh361, ?_⟩
      refine C_mix hG hR ?_
      refine af_N0 rfl rfl rfl ?_
      try dsimp only
      try simp only [m3_z, m3_f, m3_q, u2_m3_z, u2_m3_f, u2_m3_q, Int.reduceToNat]
      refine B_X10_mixAll_18 ?_
      try dsimp only
      try simp only [m3_z, m3_f, m3_q, u2_m3_z, u2_m3_f, u2_m3_q, Int.reduceToNat]
      refine ⟨by (refine ⟨?_, ?_⟩ <;> omega), ?_⟩
      have e := ih (j + 1) (by omega)
      rw [show (j + 1).toNat = j.toNat + 1 by omega, hs, ← hr] at e
      exact e
theorem L_mx2 {G : amG} {I : Nat → Nat → Int} {R : Nat → Nat → Option Nat} {L : Nat → Nat → Int64} {x : Nat} {Q : amR → amH → Prop} (hG : amG0 G) (hR : RM R) {z f q : Row} {h : Int64} (hW : WF z) (hK : X G mX10_mixAll Q 54 [some (aR (some 361)), some (aI 288), none] [] (m3 I z f q, R, u2 L 361 13 (mxN (F2 z) h 288), SH, x, 0, 0)) :
    ∀ (n : Nat) (j : Int), (0 ≤ j ∧ j ≤ 288 ∧ 288 - j < n) → X G mX10_mixAll Q 26 [some (aR (some 361)), some (aI j), none] [] (m3 I z f q, R, u2 L 361 13 (mxN (F2 z) h j.toNat), SH, x, 0, 0) := by
  intro n
  induction n with
  | zero =>
    intros
    exfalso; omega
  | succ n ih =>
    intro j h1
    have hs := mxN_s (F2 z) h j.toNat
    have td : j.tdiv 3 = j / 3 := Int.tdiv_eq_ediv_of_nonneg (by omega)
    have tm : j.tmod 3 = j % 3 := Int.tmod_eq_emod_of_nonneg (by omega)
    refine B_X10_mixAll_26 ?_
    try dsimp only
    try simp only [m3_z, m3_f, m3_q, u2_m3_z, u2_m3_f, u2_m3_q, Int.reduceToNat]
    refine ⟨fun c30_0 => ?_, fun c30_0 => ?_⟩
    · have e : j = 288 := by omega
      rw [e]
      exact hK
    · refine ⟨⟨by decide, by (refine ⟨?_, ?_⟩ <;> omega)⟩, ?_⟩
      refine ⟨⟨by decide, by (refine ⟨?_, ?_⟩ <;> omega)⟩, ?_⟩
      refine ⟨⟨Nat.zero_le _, Nat.zero_le _, Nat.le_of_ble_eq_true rfl⟩, sh361, ?_⟩
      refine C_cellNow hG hR (I := m3 I z f q) hW.1.1 hW.1.2.1 (by unfold isC; omega) (fun r hr => ?_)
      have hr : r = F2 z j.toNat := by
        rw [hr, td, tm]
        show ceN z (j / 3) (j % 3) = ceN z (((j.toNat : Nat) : Int) / 3) (((j.toNat : Nat) : Int) % 3)
        rw [show ((j.toNat : Nat) : Int) = j by omega]
      refine af_I0 rfl rfl (by decide) ?_
      try dsimp only
      try simp only [m3_z, m3_f, m3_q, u2_m3_z, u2_m3_f, u2_m3_q, Int.reduceToNat]
      refine B_X10_mixAll_44 ?_
      try dsimp only
      try simp only [m3_z, m3_f, m3_q, u2_m3_z, u2_m3_f, u2_m3_q, Int.reduceToNat]
      refine ⟨⟨Nat.zero_le _, Nat.zero_le _, Nat.le_of_ble_eq_true rfl⟩, sh361, ?_⟩
      refine C_mix hG hR ?_
      refine af_N0 rfl rfl rfl ?_
      try dsimp only
      try simp only [m3_z, m3_f, m3_q, u2_m3_z, u2_m3_f, u2_m3_q, Int.reduceToNat]
      refine B_X10_mixAll_48 ?_
      try dsimp only
      try simp only [m3_z, m3_f, m3_q, u2_m3_z, u2_m3_f, u2_m3_q, Int.reduceToNat]
      refine ⟨by (refine ⟨?_, ?_⟩ <;> omega), ?_⟩
      have e := ih (j + 1) (by omega)
      rw [show (j + 1).toNat = j.toNat + 1 by omega, hs, ← hr] at e
      exact e
theorem L_mx3b {G : amG} {I : Nat → Nat → Int} {R : Nat → Nat → Option Nat} {L : Nat → Nat → Int64} {x : Nat} {Q : amR → amH → Prop} (hG : amG0 G) (hR : RM R) {z f q : Row} {h : Int64} (hW : WF z) {k : Int} (hk : 0 ≤ k ∧ k < z 98) (hK : X G mX10_mixAll Q 92 [some (aR (some 361)), some (aI k), some (aI 9)] [] (m3 I z f q, R, u2 L 361 13 (mxN (F3 z k.toNat) h 9), SH, x, 0, 0)) :
    ∀ (n : Nat) (j : Int), (0 ≤ j ∧ j ≤ 9 ∧ 9 - j < n) → X G mX10_mixAll Q 69 [some (aR (some 361)), some (aI k), some (aI j)] [] (m3 I z f q, R, u2 L 361 13 (mxN (F3 z k.toNat) h j.toNat), SH, x, 0, 0) := by
  intro n
  induction n with
  | zero =>
    intros
    exfalso; omega
  | succ n ih =>
    intro j h1
    have hs := mxN_s (F3 z k.toNat) h j.toNat
    have hn2 := hW.1.2.1.2
    refine B_X10_mixAll_69 ?_
    try dsimp only
    try simp only [m3_z, m3_f, m3_q, u2_m3_z, u2_m3_f, u2_m3_q, Int.reduceToNat]
    refine ⟨fun c72_0 => ?_, fun c72_0 => ?_⟩
    · have e : j = 9 := by omega
      rw [e]
      exact hK
    · refine ⟨⟨Nat.zero_le _, Nat.zero_le _, Nat.le_of_ble_eq_true rfl⟩, sh361, ?_⟩
      refine C_troopNow hG hR (I := m3 I z f q) hW.2.1.1 (by omega) (by omega) (fun r hr => ?_)
      have hr : r = F3 z k.toNat j.toNat := by
        rw [hr]
        show trN z k.toNat j = trN z k.toNat ((j.toNat : Nat) : Int)
        rw [show ((j.toNat : Nat) : Int) = j by omega]
      refine af_I0 rfl rfl (by decide) ?_
      try dsimp only
      try simp only [m3_z, m3_f, m3_q, u2_m3_z, u2_m3_f, u2_m3_q, Int.reduceToNat]
      refine B_X10_mixAll_82 ?_
      try dsimp only
      try simp only [m3_z, m3_f, m3_q, u2_m3_z, u2_m3_f, u2_m3_q, Int.reduceToNat]
      refine ⟨⟨Nat.zero_le _, Nat.zero_le _, Nat.le_of_ble_eq_true rfl⟩, sh361, ?_⟩
      refine C_mix hG hR ?_
      refine af_N0 rfl rfl rfl ?_
      try dsimp only
      try simp only [m3_z, m3_f, m3_q, u2_m3_z, u2_m3_f, u2_m3_q, Int.reduceToNat]
      refine B_X10_mixAll_86 ?_
      try dsimp only
      try simp only [m3_z, m3_f, m3_q, u2_m3_z, u2_m3_f, u2_m3_q, Int.reduceToNat]
      refine ⟨by (refine ⟨?_, ?_⟩ <;> omega), ?_⟩
      have e := ih (j + 1) (by omega)
      rw [show (j + 1).toNat = j.toNat + 1 by omega, hs, ← hr] at e
      exact e
theorem L_mx3 {G : amG} {I : Nat → Nat → Int} {R : Nat → Nat → Option Nat} {L : Nat → Nat → Int64} {x : Nat} {Q : amR → amH → Prop} (hG : amG0 G) (hR : RM R) {z : Row} {h : Int64} (hW : WF z) (hK : ∀ (f q : Row) (l2 : Option amV), X G mX10_mixAll Q 108 [some (aR (some 361)), some (aI (z 98)), l2] [] (m3 I z f q, R, u2 L 361 13 (dgT z h (z 98).toNat), SH, x, 0, 0)) :
    ∀ (n : Nat) (j : Int) (f q : Row) (l2 : Option amV), (0 ≤ j ∧ j ≤ z 98 ∧ z 98 - j < n) → X G mX10_mixAll Q 56 [some (aR (some 361)), some (aI j), l2] [] (m3 I z f q, R, u2 L 361 13 (dgT z h j.toNat), SH, x, 0, 0) := by
  intro n
  induction n with
  | zero =>
    intros
    exfalso; omega
  | succ n ih =>
    intro j f q l2 h1
    have hs := dgT_s z h j.toNat
    have hn2 := hW.1.2.1.2
    refine B_X10_mixAll_56 ?_
    try dsimp only
    try simp only [m3_z, m3_f, m3_q, u2_m3_z, u2_m3_f, u2_m3_q, Int.reduceToNat]
    refine ⟨sh361, _, hR.z, ?_⟩
    refine ⟨_, sh362, ⟨by omega, by omega⟩, ?_⟩
    try simp only [m3_z, m3_f, m3_q, u2_m3_z, u2_m3_f, u2_m3_q, Int.reduceToNat]
    refine ⟨fun c64_0 => ?_, fun c64_0 => ?_⟩
    · have e : j = z 98 := by omega
      rw [e]
      exact hK f q l2
    · refine L_mx3b hG hR hW (by omega) ?_ 10 0 (by omega)
      refine B_X10_mixAll_92 ?_
      try dsimp only
      try simp only [m3_z, m3_f, m3_q, u2_m3_z, u2_m3_f, u2_m3_q, Int.reduceToNat]
      refine ⟨⟨Nat.zero_le _, Nat.zero_le _, Nat.le_of_ble_eq_true rfl⟩, sh361, ?_⟩
      refine C_whyNot hG hR hW.1.1 hW.1.2.1 hW.1.2.2.1 hW.1.2.2.2.2.1 (by omega) (fun f2 q2 => ?_)
      refine af_I0 rfl rfl (by decide) ?_
      try dsimp only
      try simp only [m3_z, m3_f, m3_q, u2_m3_z, u2_m3_f, u2_m3_q, Int.reduceToNat]
      refine B_X10_mixAll_98 ?_
      try dsimp only
      try simp only [m3_z, m3_f, m3_q, u2_m3_z, u2_m3_f, u2_m3_q, Int.reduceToNat]
      refine ⟨⟨Nat.zero_le _, Nat.zero_le _, Nat.le_of_ble_eq_true rfl⟩, sh361, ?_⟩
      refine C_mix hG hR ?_
      refine af_N0 rfl rfl rfl ?_
      try dsimp only
      try simp only [m3_z, m3_f, m3_q, u2_m3_z, u2_m3_f, u2_m3_q, Int.reduceToNat]
      refine B_X10_mixAll_102 ?_
      try dsimp only
      try simp only [m3_z, m3_f, m3_q, u2_m3_z, u2_m3_f, u2_m3_q, Int.reduceToNat]
      refine ⟨by (refine ⟨?_, ?_⟩ <;> omega), ?_⟩
      have e := ih (j + 1) f2 q2 (some (aI 9)) (by omega)
      rw [show (j + 1).toNat = j.toNat + 1 by omega, hs] at e
      exact e
theorem L_mx4 {G : amG} {I : Nat → Nat → Int} {R : Nat → Nat → Option Nat} {L : Nat → Nat → Int64} {x : Nat} {Q : amR → amH → Prop} (hG : amG0 G) (hR : RM R) {z f q : Row} {h : Int64} (hW : WF z) (hK : ∀ l2 : Option amV, X G mX10_mixAll Q 145 [some (aR (some 361)), some (aI (4 * z 195)), l2] [] (m3 I z f q, R, u2 L 361 13 (mxN (F4 z) h (4 * z 195).toNat), SH, x, 0, 0)) :
    ∀ (n : Nat) (j : Int) (l2 : Option amV), (0 ≤ j ∧ j ≤ 4 * z 195 ∧ 4 * z 195 - j < n) → X G mX10_mixAll Q 110 [some (aR (some 361)), some (aI j), l2] [] (m3 I z f q, R, u2 L 361 13 (mxN (F4 z) h j.toNat), SH, x, 0, 0) := by
  intro n
  induction n with
  | zero =>
    intros
    exfalso; omega
  | succ n ih =>
    intro j l2 h1
    have hs := mxN_s (F4 z) h j.toNat
    have ho := hW.2.1.1
    have td : j.tdiv 4 = j / 4 := Int.tdiv_eq_ediv_of_nonneg (by omega)
    have tm : j.tmod 4 = j % 4 := Int.tmod_eq_emod_of_nonneg (by omega)
    have h0C := hW.2.2.1.1
    have hd : ∀ k : Nat, (k : Int) < z 195 → 0 ≤ z (196 + 4 * k + 3) ∧ z (196 + 4 * k + 3) ≤ 1100 := fun k hk => by
      have := hW.2.1.2 k hk
      omega
    refine B_X10_mixAll_110 ?_
    try dsimp only
    try simp only [m3_z, m3_f, m3_q, u2_m3_z, u2_m3_f, u2_m3_q, Int.reduceToNat]
    refine ⟨sh361, _, hR.z, ?_⟩
    refine ⟨_, sh362, ⟨by omega, by omega⟩, ?_⟩
    try simp only [m3_z, m3_f, m3_q, u2_m3_z, u2_m3_f, u2_m3_q, Int.reduceToNat]
    refine ⟨by (refine ⟨?_, ?_⟩ <;> omega), ?_⟩
    refine ⟨fun c121_0 => ?_, fun c121_0 => ?_⟩
    · have e : j = 4 * z 195 := by omega
      rw [e]
      exact hK l2
    · refine ⟨⟨by decide, by (refine ⟨?_, ?_⟩ <;> omega)⟩, ?_⟩
      refine ⟨⟨by decide, by (refine ⟨?_, ?_⟩ <;> omega)⟩, ?_⟩
      refine ⟨⟨Nat.zero_le _, Nat.zero_le _, Nat.le_of_ble_eq_true rfl⟩, sh361, ?_⟩
      refine C_underWayNow hG hR (I := m3 I z f q) ho hd (by omega) (uw_ex (z := z) (by omega) (by show j.tdiv 4 < z 195; omega)) (fun o ho1 ho2 => ?_)
      have hr : (m3 I z f q) 362 (196 + 4 * o + (j.tmod 4).toNat) = F4 z j.toNat := by
        rw [m3_z] at ho1 ho2 ⊢
        rw [uwZ_is (z := z) (w := j.tmod 4) (p := j.toNat / 4) (by omega) ho1 (by rw [ho2]; omega), tm]
        show uwZ z (j.toNat / 4) (j % 4) = uwZ z (j.toNat / 4) (((j.toNat : Nat) : Int) % 4)
        rw [show ((j.toNat : Nat) : Int) = j by omega]
      rw [hr]
      refine af_I0 rfl rfl (by decide) ?_
      try dsimp only
      try simp only [m3_z, m3_f, m3_q, u2_m3_z, u2_m3_f, u2_m3_q, Int.reduceToNat]
      refine B_X10_mixAll_135 ?_
      try dsimp only
      try simp only [m3_z, m3_f, m3_q, u2_m3_z, u2_m3_f, u2_m3_q, Int.reduceToNat]
      refine ⟨⟨Nat.zero_le _, Nat.zero_le _, Nat.le_of_ble_eq_true rfl⟩, sh361, ?_⟩
      refine C_mix hG hR ?_
      refine af_N0 rfl rfl rfl ?_
      try dsimp only
      try simp only [m3_z, m3_f, m3_q, u2_m3_z, u2_m3_f, u2_m3_q, Int.reduceToNat]
      refine B_X10_mixAll_139 ?_
      try dsimp only
      try simp only [m3_z, m3_f, m3_q, u2_m3_z, u2_m3_f, u2_m3_q, Int.reduceToNat]
      refine ⟨by (refine ⟨?_, ?_⟩ <;> omega), ?_⟩
      have e := ih (j + 1) l2 (by omega)
      rw [show (j + 1).toNat = j.toNat + 1 by omega, hs] at e
      exact e
theorem C_mixAll {G : amG} {I : Nat → Nat → Int} {z f q : Row} {R : Nat → Nat → Option Nat} {L : Nat → Nat → Int64} {x c t : Nat} {Q : amR → amH → Prop} (hG : amG0 G) (hR : RM R) {h : Int64} (hW : WF z) (hQ : ∀ f q : Row, Q (Sum.inl none) (m3 I z f q, R, u2 L 361 13 (dgA z (I 361 2) h), SH, x, 0, 0)) : CT G sX10_mixAll [aR (some 361)] (m3 I z f q, R, u2 L 361 13 (h), SH, x, c, t) Q := by
  refine CT_of ok_X10_mixAll hG (Nat.le_of_ble_eq_true rfl) ?_
  show X G mX10_mixAll Q 0 _ [] (m3 I z f q, R, u2 L 361 13 (h), SH, x, 0, 0)
  refine B_X10_mixAll_0 ?_
  try dsimp only
  try simp only [m3_z, m3_f, m3_q, u2_m3_z, u2_m3_f, u2_m3_q, Int.reduceToNat]
  refine L_mx1 hG hR hW ?_ 15 0 (by omega)
  refine B_X10_mixAll_24 ?_
  try dsimp only
  try simp only [m3_z, m3_f, m3_q, u2_m3_z, u2_m3_f, u2_m3_q, Int.reduceToNat]
  refine L_mx2 hG hR hW ?_ 289 0 (by omega)
  refine B_X10_mixAll_54 ?_
  try dsimp only
  try simp only [m3_z, m3_f, m3_q, u2_m3_z, u2_m3_f, u2_m3_q, Int.reduceToNat]
  refine L_mx3 hG hR hW (fun f2 q2 l2 => ?_) 13 0 f q none (by have := hW.1.2.1; unfold wfN at this; omega)
  refine B_X10_mixAll_108 ?_
  try dsimp only
  try simp only [m3_z, m3_f, m3_q, u2_m3_z, u2_m3_f, u2_m3_q, Int.reduceToNat]
  refine L_mx4 hG hR hW (fun l3 => ?_) 121 0 l2 (by have := hW.2.1.1; omega)
  refine B_X10_mixAll_145 ?_
  try dsimp only
  try simp only [m3_z, m3_f, m3_q, u2_m3_z, u2_m3_f, u2_m3_q, Int.reduceToNat]
  refine ⟨sh361, _, hR.z, ?_⟩
  refine ⟨_, sh362, ⟨by omega, by omega⟩, ?_⟩
  try simp only [m3_z, m3_f, m3_q, u2_m3_z, u2_m3_f, u2_m3_q, Int.reduceToNat]
  refine ⟨⟨Nat.zero_le _, Nat.zero_le _, Nat.le_of_ble_eq_true rfl⟩, sh361, ?_⟩
  refine C_seenFrom hG hR (I := m3 I z f2 q2) hW.1.1 hW.1.2.2.2.2.1.1 (fun r1 hr1 => ?_)
  refine af_I0 rfl rfl (by decide) ?_
  try dsimp only
  try simp only [m3_z, m3_f, m3_q, u2_m3_z, u2_m3_f, u2_m3_q, Int.reduceToNat]
  refine B_X10_mixAll_157 ?_
  try dsimp only
  try simp only [m3_z, m3_f, m3_q, u2_m3_z, u2_m3_f, u2_m3_q, Int.reduceToNat]
  refine ⟨⟨Nat.zero_le _, Nat.zero_le _, Nat.le_of_ble_eq_true rfl⟩, sh361, ?_⟩
  refine C_mix hG hR ?_
  refine af_N0 rfl rfl rfl ?_
  try dsimp only
  try simp only [m3_z, m3_f, m3_q, u2_m3_z, u2_m3_f, u2_m3_q, Int.reduceToNat]
  refine B_X10_mixAll_161 ?_
  try dsimp only
  try simp only [m3_z, m3_f, m3_q, u2_m3_z, u2_m3_f, u2_m3_q, Int.reduceToNat]
  refine ⟨sh361, _, hR.z, ?_⟩
  refine ⟨_, sh362, ⟨by omega, by omega⟩, ?_⟩
  try simp only [m3_z, m3_f, m3_q, u2_m3_z, u2_m3_f, u2_m3_q, Int.reduceToNat]
  refine ⟨⟨Nat.zero_le _, Nat.zero_le _, Nat.le_of_ble_eq_true rfl⟩, sh361, ?_⟩
  refine C_seenFrom hG hR (I := m3 I z f2 q2) hW.1.1 hW.1.2.2.2.2.1.2 (fun r2 hr2 => ?_)
  refine af_I0 rfl rfl (by decide) ?_
  try dsimp only
  try simp only [m3_z, m3_f, m3_q, u2_m3_z, u2_m3_f, u2_m3_q, Int.reduceToNat]
  refine B_X10_mixAll_173 ?_
  try dsimp only
  try simp only [m3_z, m3_f, m3_q, u2_m3_z, u2_m3_f, u2_m3_q, Int.reduceToNat]
  refine ⟨⟨Nat.zero_le _, Nat.zero_le _, Nat.le_of_ble_eq_true rfl⟩, sh361, ?_⟩
  refine C_mix hG hR ?_
  refine af_N0 rfl rfl rfl ?_
  try dsimp only
  try simp only [m3_z, m3_f, m3_q, u2_m3_z, u2_m3_f, u2_m3_q, Int.reduceToNat]
  refine B_X10_mixAll_177 ?_
  try dsimp only
  try simp only [m3_z, m3_f, m3_q, u2_m3_z, u2_m3_f, u2_m3_q, Int.reduceToNat]
  refine ⟨rfl, ?_⟩
  rw [hr1, hr2]
  exact hQ f2 q2
