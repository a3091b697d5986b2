/-! ===== one call of the law, on both sides ===== -/
theorem uw_at {z : Row} {o : Nat} {p w : Int} (ho : (o : Int) < z 195) (hr : rkN z o (z 195).toNat = p) (hp : (0 ≤ p ∧ p < z 195) ∧ 0 ≤ w ∧ w ≤ 3) : Int64.ofInt (uwZ z p.toNat w) = Int64.ofInt (z (196 + 4 * o + w.toNat)) := by
  rw [uwZ_is (p := p.toNat) hp.2 ho (by omega)]
theorem T_shape {G : amG} {Q : amR → amH → Prop} {x0 : Nat} {x4 x5 y0 : Int} {o6 o7 : Option amV} {K : Nat → Nat → Int} {R : Nat → Nat → Option Nat} {L : Nat → Nat → Int64} {x c t : Nat} (hG : amG0 G) (e : K 361 0 = x5) (e2 : x5 = 0 → L 369 0 = Int64.ofInt y0) (hK : ∀ p5 p6 p7 : Option amV, X G mL_law Q 1356 [some (aO x0), some (aR (some 0)), some (aR (some 361)), some (aR (some 369)), some (aI x4), p5, p6, p7, none] [] (K, R, L, SH, x, c, t)) : X G mL_law Q 187 [some (aO x0), some (aR (some 0)), some (aR (some 361)), some (aR (some 369)), some (aI x4), some (aI x5), o6, o7, none] [aI y0] (K, R, L, SH, x, c, t) := by
  refine B_L_law_187 ?_
  try dsimp only
  refine ⟨⟨Nat.zero_le _, Nat.zero_le _, Nat.le_of_ble_eq_true rfl⟩, sh361, C_thrown hG ?_⟩
  refine af_I0 rfl rfl (by decide) ?_
  try dsimp only
  refine B_L_law_193 ⟨fun _ => ?_, fun q => absurd e q⟩
  refine B_L_law_200 ?_
  try dsimp only
  refine ⟨fun _ => B_L_law_217 (hK _ _ _), fun q => ⟨_, sh369, ⟨by decide, by decide⟩, fun _ => B_L_law_217 (hK _ _ _), fun q2 => ?_⟩⟩
  exfalso
  rw [e2 (by omega)] at q2
  exact q2 (lg_self _)
theorem T_moveGeneral {G : amG} {Q : amR → amH → Prop} {x0 : Nat} {x4 x5 y0 : Int} {o6 o7 : Option amV} {K : Nat → Nat → Int} {R : Nat → Nat → Option Nat} {L : Nat → Nat → Int64} {x c t : Nat} (hG : amG0 G) (e : K 361 0 = x5) (e2 : x5 = 0 → L 369 0 = Int64.ofInt y0) (hK : ∀ p5 p6 p7 : Option amV, X G mL_law Q 1356 [some (aO x0), some (aR (some 0)), some (aR (some 361)), some (aR (some 369)), some (aI x4), p5, p6, p7, none] [] (K, R, L, SH, x, c, t)) : X G mL_law Q 255 [some (aO x0), some (aR (some 0)), some (aR (some 361)), some (aR (some 369)), some (aI x4), some (aI x5), o6, o7, none] [aI y0] (K, R, L, SH, x, c, t) := by
  refine B_L_law_255 ?_
  try dsimp only
  refine ⟨⟨Nat.zero_le _, Nat.zero_le _, Nat.le_of_ble_eq_true rfl⟩, sh361, C_thrown hG ?_⟩
  refine af_I0 rfl rfl (by decide) ?_
  try dsimp only
  refine B_L_law_261 ⟨fun _ => ?_, fun q => absurd e q⟩
  refine B_L_law_268 ?_
  try dsimp only
  refine ⟨fun _ => B_L_law_285 (hK _ _ _), fun q => ⟨_, sh369, ⟨by decide, by decide⟩, fun _ => B_L_law_285 (hK _ _ _), fun q2 => ?_⟩⟩
  exfalso
  rw [e2 (by omega)] at q2
  exact q2 (lg_self _)
theorem T_addTroop {G : amG} {Q : amR → amH → Prop} {x0 : Nat} {x4 x5 y0 : Int} {o6 o7 : Option amV} {K : Nat → Nat → Int} {R : Nat → Nat → Option Nat} {L : Nat → Nat → Int64} {x c t : Nat} (hG : amG0 G) (e : K 361 0 = x5) (e2 : x5 = 0 → L 369 0 = Int64.ofInt y0) (hK : ∀ p5 p6 p7 : Option amV, X G mL_law Q 1356 [some (aO x0), some (aR (some 0)), some (aR (some 361)), some (aR (some 369)), some (aI x4), p5, p6, p7, none] [] (K, R, L, SH, x, c, t)) : X G mL_law Q 335 [some (aO x0), some (aR (some 0)), some (aR (some 361)), some (aR (some 369)), some (aI x4), some (aI x5), o6, o7, none] [aI y0] (K, R, L, SH, x, c, t) := by
  refine B_L_law_335 ?_
  try dsimp only
  refine ⟨⟨Nat.zero_le _, Nat.zero_le _, Nat.le_of_ble_eq_true rfl⟩, sh361, C_thrown hG ?_⟩
  refine af_I0 rfl rfl (by decide) ?_
  try dsimp only
  refine B_L_law_341 ⟨fun _ => ?_, fun q => absurd e q⟩
  refine B_L_law_348 ?_
  try dsimp only
  refine ⟨fun _ => B_L_law_365 (hK _ _ _), fun q => ⟨_, sh369, ⟨by decide, by decide⟩, fun _ => B_L_law_365 (hK _ _ _), fun q2 => ?_⟩⟩
  exfalso
  rw [e2 (by omega)] at q2
  exact q2 (lg_self _)
theorem T_order {G : amG} {Q : amR → amH → Prop} {x0 : Nat} {x4 x5 y0 : Int} {o6 o7 : Option amV} {K : Nat → Nat → Int} {R : Nat → Nat → Option Nat} {L : Nat → Nat → Int64} {x c t : Nat} (hG : amG0 G) (e : K 361 0 = x5) (e2 : x5 = 0 → L 369 0 = Int64.ofInt y0) (hK : ∀ p5 p6 p7 : Option amV, X G mL_law Q 1356 [some (aO x0), some (aR (some 0)), some (aR (some 361)), some (aR (some 369)), some (aI x4), p5, p6, p7, none] [] (K, R, L, SH, x, c, t)) : X G mL_law Q 403 [some (aO x0), some (aR (some 0)), some (aR (some 361)), some (aR (some 369)), some (aI x4), some (aI x5), o6, o7, none] [aI y0] (K, R, L, SH, x, c, t) := by
  refine B_L_law_403 ?_
  try dsimp only
  refine ⟨⟨Nat.zero_le _, Nat.zero_le _, Nat.le_of_ble_eq_true rfl⟩, sh361, C_thrown hG ?_⟩
  refine af_I0 rfl rfl (by decide) ?_
  try dsimp only
  refine B_L_law_409 ⟨fun _ => ?_, fun q => absurd e q⟩
  refine B_L_law_416 ?_
  try dsimp only
  refine ⟨fun _ => B_L_law_433 (hK _ _ _), fun q => ⟨_, sh369, ⟨by decide, by decide⟩, fun _ => B_L_law_433 (hK _ _ _), fun q2 => ?_⟩⟩
  exfalso
  rw [e2 (by omega)] at q2
  exact q2 (lg_self _)
theorem T_pass {G : amG} {Q : amR → amH → Prop} {x0 : Nat} {x4 x5 y0 : Int} {o6 o7 : Option amV} {K : Nat → Nat → Int} {R : Nat → Nat → Option Nat} {L : Nat → Nat → Int64} {x c t : Nat} (hG : amG0 G) (e : K 361 0 = x5) (e2 : x5 = 0 → L 369 0 = Int64.ofInt y0) (hK : ∀ p5 p6 p7 : Option amV, X G mL_law Q 1356 [some (aO x0), some (aR (some 0)), some (aR (some 361)), some (aR (some 369)), some (aI x4), p5, p6, p7, none] [] (K, R, L, SH, x, c, t)) : X G mL_law Q 459 [some (aO x0), some (aR (some 0)), some (aR (some 361)), some (aR (some 369)), some (aI x4), some (aI x5), o6, o7, none] [aI y0] (K, R, L, SH, x, c, t) := by
  refine B_L_law_459 ?_
  try dsimp only
  refine ⟨⟨Nat.zero_le _, Nat.zero_le _, Nat.le_of_ble_eq_true rfl⟩, sh361, C_thrown hG ?_⟩
  refine af_I0 rfl rfl (by decide) ?_
  try dsimp only
  refine B_L_law_465 ⟨fun _ => ?_, fun q => absurd e q⟩
  refine B_L_law_472 ?_
  try dsimp only
  refine ⟨fun _ => B_L_law_489 (hK _ _ _), fun q => ⟨_, sh369, ⟨by decide, by decide⟩, fun _ => B_L_law_489 (hK _ _ _), fun q2 => ?_⟩⟩
  exfalso
  rw [e2 (by omega)] at q2
  exact q2 (lg_self _)
theorem T_append {G : amG} {Q : amR → amH → Prop} {x0 : Nat} {x4 x5 y0 : Int} {o6 o7 : Option amV} {K : Nat → Nat → Int} {R : Nat → Nat → Option Nat} {L : Nat → Nat → Int64} {x c t : Nat} (hG : amG0 G) (e : K 361 0 = x5) (e2 : x5 = 0 → L 369 0 = Int64.ofInt y0) (hK : ∀ p5 p6 p7 : Option amV, X G mL_law Q 1356 [some (aO x0), some (aR (some 0)), some (aR (some 361)), some (aR (some 369)), some (aI x4), p5, p6, p7, none] [] (K, R, L, SH, x, c, t)) : X G mL_law Q 515 [some (aO x0), some (aR (some 0)), some (aR (some 361)), some (aR (some 369)), some (aI x4), some (aI x5), o6, o7, none] [aI y0] (K, R, L, SH, x, c, t) := by
  refine B_L_law_515 ?_
  try dsimp only
  refine ⟨⟨Nat.zero_le _, Nat.zero_le _, Nat.le_of_ble_eq_true rfl⟩, sh361, C_thrown hG ?_⟩
  refine af_I0 rfl rfl (by decide) ?_
  try dsimp only
  refine B_L_law_521 ⟨fun _ => ?_, fun q => absurd e q⟩
  refine B_L_law_528 ?_
  try dsimp only
  refine ⟨fun _ => B_L_law_545 (hK _ _ _), fun q => ⟨_, sh369, ⟨by decide, by decide⟩, fun _ => B_L_law_545 (hK _ _ _), fun q2 => ?_⟩⟩
  exfalso
  rw [e2 (by omega)] at q2
  exact q2 (lg_self _)
theorem T_load {G : amG} {Q : amR → amH → Prop} {x0 : Nat} {x4 x5 y0 : Int} {o6 o7 : Option amV} {K : Nat → Nat → Int} {R : Nat → Nat → Option Nat} {L : Nat → Nat → Int64} {x c t : Nat} (hG : amG0 G) (e : K 361 0 = x5) (e2 : x5 = 0 → L 369 0 = Int64.ofInt y0) (hK : ∀ p5 p6 p7 : Option amV, X G mL_law Q 1356 [some (aO x0), some (aR (some 0)), some (aR (some 361)), some (aR (some 369)), some (aI x4), p5, p6, p7, none] [] (K, R, L, SH, x, c, t)) : X G mL_law Q 585 [some (aO x0), some (aR (some 0)), some (aR (some 361)), some (aR (some 369)), some (aI x4), some (aI x5), o6, o7, none] [aI y0] (K, R, L, SH, x, c, t) := by
  refine B_L_law_585 ?_
  try dsimp only
  refine ⟨⟨Nat.zero_le _, Nat.zero_le _, Nat.le_of_ble_eq_true rfl⟩, sh361, C_thrown hG ?_⟩
  refine af_I0 rfl rfl (by decide) ?_
  try dsimp only
  refine B_L_law_591 ⟨fun _ => ?_, fun q => absurd e q⟩
  refine B_L_law_598 ?_
  try dsimp only
  refine ⟨fun _ => B_L_law_615 (hK _ _ _), fun q => ⟨_, sh369, ⟨by decide, by decide⟩, fun _ => B_L_law_615 (hK _ _ _), fun q2 => ?_⟩⟩
  exfalso
  rw [e2 (by omega)] at q2
  exact q2 (lg_self _)
theorem T_undo {G : amG} {Q : amR → amH → Prop} {x0 : Nat} {x4 x5 y0 : Int} {o6 o7 : Option amV} {K : Nat → Nat → Int} {R : Nat → Nat → Option Nat} {L : Nat → Nat → Int64} {x c t : Nat} (hG : amG0 G) (e : K 361 0 = x5) (e2 : x5 = 0 → L 369 0 = Int64.ofInt y0) (hK : ∀ p5 p6 p7 : Option amV, X G mL_law Q 1356 [some (aO x0), some (aR (some 0)), some (aR (some 361)), some (aR (some 369)), some (aI x4), p5, p6, p7, none] [] (K, R, L, SH, x, c, t)) : X G mL_law Q 629 [some (aO x0), some (aR (some 0)), some (aR (some 361)), some (aR (some 369)), some (aI x4), some (aI x5), o6, o7, none] [aI y0] (K, R, L, SH, x, c, t) := by
  refine B_L_law_629 ?_
  try dsimp only
  refine ⟨⟨Nat.zero_le _, Nat.zero_le _, Nat.le_of_ble_eq_true rfl⟩, sh361, C_thrown hG ?_⟩
  refine af_I0 rfl rfl (by decide) ?_
  try dsimp only
  refine B_L_law_635 ⟨fun _ => ?_, fun q => absurd e q⟩
  refine B_L_law_642 ?_
  try dsimp only
  refine ⟨fun _ => B_L_law_659 (hK _ _ _), fun q => ⟨_, sh369, ⟨by decide, by decide⟩, fun _ => B_L_law_659 (hK _ _ _), fun q2 => ?_⟩⟩
  exfalso
  rw [e2 (by omega)] at q2
  exact q2 (lg_self _)
theorem T_cell {G : amG} {Q : amR → amH → Prop} {x0 : Nat} {x4 x5 y0 : Int} {o6 o7 : Option amV} {K : Nat → Nat → Int} {R : Nat → Nat → Option Nat} {L : Nat → Nat → Int64} {x c t : Nat} (hG : amG0 G) (e : K 361 0 = x5) (e2 : x5 = 0 → L 369 0 = Int64.ofInt y0) (hK : ∀ p5 p6 p7 : Option amV, X G mL_law Q 1356 [some (aO x0), some (aR (some 0)), some (aR (some 361)), some (aR (some 369)), some (aI x4), p5, p6, p7, none] [] (K, R, L, SH, x, c, t)) : X G mL_law Q 697 [some (aO x0), some (aR (some 0)), some (aR (some 361)), some (aR (some 369)), some (aI x4), some (aI x5), o6, o7, none] [aI y0] (K, R, L, SH, x, c, t) := by
  refine B_L_law_697 ?_
  try dsimp only
  refine ⟨⟨Nat.zero_le _, Nat.zero_le _, Nat.le_of_ble_eq_true rfl⟩, sh361, C_thrown hG ?_⟩
  refine af_I0 rfl rfl (by decide) ?_
  try dsimp only
  refine B_L_law_703 ⟨fun _ => ?_, fun q => absurd e q⟩
  refine B_L_law_710 ?_
  try dsimp only
  refine ⟨fun _ => B_L_law_727 (hK _ _ _), fun q => ⟨_, sh369, ⟨by decide, by decide⟩, fun _ => B_L_law_727 (hK _ _ _), fun q2 => ?_⟩⟩
  exfalso
  rw [e2 (by omega)] at q2
  exact q2 (lg_self _)
theorem T_troop {G : amG} {Q : amR → amH → Prop} {x0 : Nat} {x4 x5 y0 : Int} {o6 o7 : Option amV} {K : Nat → Nat → Int} {R : Nat → Nat → Option Nat} {L : Nat → Nat → Int64} {x c t : Nat} (hG : amG0 G) (e : K 361 0 = x5) (e2 : x5 = 0 → L 369 0 = Int64.ofInt y0) (hK : ∀ p5 p6 p7 : Option amV, X G mL_law Q 1356 [some (aO x0), some (aR (some 0)), some (aR (some 361)), some (aR (some 369)), some (aI x4), p5, p6, p7, none] [] (K, R, L, SH, x, c, t)) : X G mL_law Q 765 [some (aO x0), some (aR (some 0)), some (aR (some 361)), some (aR (some 369)), some (aI x4), some (aI x5), o6, o7, none] [aI y0] (K, R, L, SH, x, c, t) := by
  refine B_L_law_765 ?_
  try dsimp only
  refine ⟨⟨Nat.zero_le _, Nat.zero_le _, Nat.le_of_ble_eq_true rfl⟩, sh361, C_thrown hG ?_⟩
  refine af_I0 rfl rfl (by decide) ?_
  try dsimp only
  refine B_L_law_771 ⟨fun _ => ?_, fun q => absurd e q⟩
  refine B_L_law_778 ?_
  try dsimp only
  refine ⟨fun _ => B_L_law_795 (hK _ _ _), fun q => ⟨_, sh369, ⟨by decide, by decide⟩, fun _ => B_L_law_795 (hK _ _ _), fun q2 => ?_⟩⟩
  exfalso
  rw [e2 (by omega)] at q2
  exact q2 (lg_self _)
theorem T_underWay {G : amG} {Q : amR → amH → Prop} {x0 : Nat} {x4 x5 y0 : Int} {o6 o7 : Option amV} {K : Nat → Nat → Int} {R : Nat → Nat → Option Nat} {L : Nat → Nat → Int64} {x c t : Nat} (hG : amG0 G) (e : K 361 0 = x5) (e2 : x5 = 0 → L 369 0 = Int64.ofInt y0) (hK : ∀ p5 p6 p7 : Option amV, X G mL_law Q 1356 [some (aO x0), some (aR (some 0)), some (aR (some 361)), some (aR (some 369)), some (aI x4), p5, p6, p7, none] [] (K, R, L, SH, x, c, t)) : X G mL_law Q 833 [some (aO x0), some (aR (some 0)), some (aR (some 361)), some (aR (some 369)), some (aI x4), some (aI x5), o6, o7, none] [aI y0] (K, R, L, SH, x, c, t) := by
  refine B_L_law_833 ?_
  try dsimp only
  refine ⟨⟨Nat.zero_le _, Nat.zero_le _, Nat.le_of_ble_eq_true rfl⟩, sh361, C_thrown hG ?_⟩
  refine af_I0 rfl rfl (by decide) ?_
  try dsimp only
  refine B_L_law_839 ⟨fun _ => ?_, fun q => absurd e q⟩
  refine B_L_law_846 ?_
  try dsimp only
  refine ⟨fun _ => B_L_law_863 (hK _ _ _), fun q => ⟨_, sh369, ⟨by decide, by decide⟩, fun _ => B_L_law_863 (hK _ _ _), fun q2 => ?_⟩⟩
  exfalso
  rw [e2 (by omega)] at q2
  exact q2 (lg_self _)
theorem T_count {G : amG} {Q : amR → amH → Prop} {x0 : Nat} {x4 x5 y0 : Int} {o6 o7 : Option amV} {K : Nat → Nat → Int} {R : Nat → Nat → Option Nat} {L : Nat → Nat → Int64} {x c t : Nat} (hG : amG0 G) (e : K 361 0 = x5) (e2 : x5 = 0 → L 369 0 = Int64.ofInt y0) (hK : ∀ p5 p6 p7 : Option amV, X G mL_law Q 1356 [some (aO x0), some (aR (some 0)), some (aR (some 361)), some (aR (some 369)), some (aI x4), p5, p6, p7, none] [] (K, R, L, SH, x, c, t)) : X G mL_law Q 889 [some (aO x0), some (aR (some 0)), some (aR (some 361)), some (aR (some 369)), some (aI x4), some (aI x5), o6, o7, none] [aI y0] (K, R, L, SH, x, c, t) := by
  refine B_L_law_889 ?_
  try dsimp only
  refine ⟨⟨Nat.zero_le _, Nat.zero_le _, Nat.le_of_ble_eq_true rfl⟩, sh361, C_thrown hG ?_⟩
  refine af_I0 rfl rfl (by decide) ?_
  try dsimp only
  refine B_L_law_895 ⟨fun _ => ?_, fun q => absurd e q⟩
  refine B_L_law_902 ?_
  try dsimp only
  refine ⟨fun _ => B_L_law_919 (hK _ _ _), fun q => ⟨_, sh369, ⟨by decide, by decide⟩, fun _ => B_L_law_919 (hK _ _ _), fun q2 => ?_⟩⟩
  exfalso
  rw [e2 (by omega)] at q2
  exact q2 (lg_self _)
theorem T_sees {G : amG} {Q : amR → amH → Prop} {x0 : Nat} {x4 x5 y0 : Int} {o6 o7 : Option amV} {K : Nat → Nat → Int} {R : Nat → Nat → Option Nat} {L : Nat → Nat → Int64} {x c t : Nat} (hG : amG0 G) (e : K 361 0 = x5) (e2 : x5 = 0 → L 369 0 = (if y0 = (0 : Int) then Int64.ofNat 0 else Int64.ofNat 1)) (hK : ∀ p5 p6 p7 : Option amV, X G mL_law Q 1356 [some (aO x0), some (aR (some 0)), some (aR (some 361)), some (aR (some 369)), some (aI x4), p5, p6, p7, none] [] (K, R, L, SH, x, c, t)) : X G mL_law Q 957 [some (aO x0), some (aR (some 0)), some (aR (some 361)), some (aR (some 369)), some (aI x4), some (aI x5), o6, o7, none] [aI y0] (K, R, L, SH, x, c, t) := by
  refine B_L_law_957 ?_
  try dsimp only
  refine ⟨⟨Nat.zero_le _, Nat.zero_le _, Nat.le_of_ble_eq_true rfl⟩, sh361, C_thrown hG ?_⟩
  refine af_I0 rfl rfl (by decide) ?_
  try dsimp only
  refine B_L_law_963 ⟨fun _ => ?_, fun q => absurd e q⟩
  refine B_L_law_970 ?_
  try dsimp only
  refine ⟨fun _ => B_L_law_994 (hK _ _ _), fun q => ⟨_, sh369, ⟨by decide, by decide⟩, fun r => B_L_law_987 (B_L_law_988 ?_), fun r => B_L_law_988 ?_⟩⟩
  · have w := e2 (by omega)
    rw [if_pos r] at w
    refine ⟨fun _ => B_L_law_994 (hK _ _ _), fun q2 => ?_⟩
    exfalso
    rw [w] at q2
    exact q2 (lg_self _)
  · have w := e2 (by omega)
    rw [if_neg r] at w
    refine ⟨fun _ => B_L_law_994 (hK _ _ _), fun q2 => ?_⟩
    exfalso
    rw [w] at q2
    exact q2 (lg_self _)
theorem T_distance {G : amG} {Q : amR → amH → Prop} {x0 : Nat} {x4 x5 y0 : Int} {o6 o7 : Option amV} {K : Nat → Nat → Int} {R : Nat → Nat → Option Nat} {L : Nat → Nat → Int64} {x c t : Nat} (hG : amG0 G) (e : K 361 0 = x5) (e2 : x5 = 0 → L 369 0 = Int64.ofInt y0) (hK : ∀ p5 p6 p7 : Option amV, X G mL_law Q 1356 [some (aO x0), some (aR (some 0)), some (aR (some 361)), some (aR (some 369)), some (aI x4), p5, p6, p7, none] [] (K, R, L, SH, x, c, t)) : X G mL_law Q 1032 [some (aO x0), some (aR (some 0)), some (aR (some 361)), some (aR (some 369)), some (aI x4), some (aI x5), o6, o7, none] [aI y0] (K, R, L, SH, x, c, t) := by
  refine B_L_law_1032 ?_
  try dsimp only
  refine ⟨⟨Nat.zero_le _, Nat.zero_le _, Nat.le_of_ble_eq_true rfl⟩, sh361, C_thrown hG ?_⟩
  refine af_I0 rfl rfl (by decide) ?_
  try dsimp only
  refine B_L_law_1038 ⟨fun _ => ?_, fun q => absurd e q⟩
  refine B_L_law_1045 ?_
  try dsimp only
  refine ⟨fun _ => B_L_law_1062 (hK _ _ _), fun q => ⟨_, sh369, ⟨by decide, by decide⟩, fun _ => B_L_law_1062 (hK _ _ _), fun q2 => ?_⟩⟩
  exfalso
  rw [e2 (by omega)] at q2
  exact q2 (lg_self _)
theorem T_why {G : amG} {Q : amR → amH → Prop} {x0 : Nat} {x4 x5 y0 : Int} {o6 o7 : Option amV} {K : Nat → Nat → Int} {R : Nat → Nat → Option Nat} {L : Nat → Nat → Int64} {x c t : Nat} (hG : amG0 G) (e : K 361 0 = x5) (e2 : x5 = 0 → L 369 0 = Int64.ofInt y0) (hK : ∀ p5 p6 p7 : Option amV, X G mL_law Q 1356 [some (aO x0), some (aR (some 0)), some (aR (some 361)), some (aR (some 369)), some (aI x4), p5, p6, p7, none] [] (K, R, L, SH, x, c, t)) : X G mL_law Q 1088 [some (aO x0), some (aR (some 0)), some (aR (some 361)), some (aR (some 369)), some (aI x4), some (aI x5), o6, o7, none] [aI y0] (K, R, L, SH, x, c, t) := by
  refine B_L_law_1088 ?_
  try dsimp only
  refine ⟨⟨Nat.zero_le _, Nat.zero_le _, Nat.le_of_ble_eq_true rfl⟩, sh361, C_thrown hG ?_⟩
  refine af_I0 rfl rfl (by decide) ?_
  try dsimp only
  refine B_L_law_1094 ⟨fun _ => ?_, fun q => absurd e q⟩
  refine B_L_law_1101 ?_
  try dsimp only
  refine ⟨fun _ => B_L_law_1118 (hK _ _ _), fun q => ⟨_, sh369, ⟨by decide, by decide⟩, fun _ => B_L_law_1118 (hK _ _ _), fun q2 => ?_⟩⟩
  exfalso
  rw [e2 (by omega)] at q2
  exact q2 (lg_self _)
theorem T_bestPost {G : amG} {Q : amR → amH → Prop} {x0 : Nat} {x4 x5 y0 : Int} {o6 o7 : Option amV} {K : Nat → Nat → Int} {R : Nat → Nat → Option Nat} {L : Nat → Nat → Int64} {x c t : Nat} (hG : amG0 G) (e : K 361 0 = x5) (e2 : x5 = 0 → L 369 0 = Int64.ofInt y0) (hK : ∀ p5 p6 p7 : Option amV, X G mL_law Q 1356 [some (aO x0), some (aR (some 0)), some (aR (some 361)), some (aR (some 369)), some (aI x4), p5, p6, p7, none] [] (K, R, L, SH, x, c, t)) : X G mL_law Q 1144 [some (aO x0), some (aR (some 0)), some (aR (some 361)), some (aR (some 369)), some (aI x4), some (aI x5), o6, o7, none] [aI y0] (K, R, L, SH, x, c, t) := by
  refine B_L_law_1144 ?_
  try dsimp only
  refine ⟨⟨Nat.zero_le _, Nat.zero_le _, Nat.le_of_ble_eq_true rfl⟩, sh361, C_thrown hG ?_⟩
  refine af_I0 rfl rfl (by decide) ?_
  try dsimp only
  refine B_L_law_1150 ⟨fun _ => ?_, fun q => absurd e q⟩
  refine B_L_law_1157 ?_
  try dsimp only
  refine ⟨fun _ => B_L_law_1174 (hK _ _ _), fun q => ⟨_, sh369, ⟨by decide, by decide⟩, fun _ => B_L_law_1174 (hK _ _ _), fun q2 => ?_⟩⟩
  exfalso
  rw [e2 (by omega)] at q2
  exact q2 (lg_self _)
theorem T_ifPassed {G : amG} {Q : amR → amH → Prop} {x0 : Nat} {x4 x5 y0 : Int} {o6 o7 : Option amV} {K : Nat → Nat → Int} {R : Nat → Nat → Option Nat} {L : Nat → Nat → Int64} {x c t : Nat} (hG : amG0 G) (e : K 361 0 = x5) (e2 : x5 = 0 → L 369 0 = Int64.ofInt y0) (hK : ∀ p5 p6 p7 : Option amV, X G mL_law Q 1356 [some (aO x0), some (aR (some 0)), some (aR (some 361)), some (aR (some 369)), some (aI x4), p5, p6, p7, none] [] (K, R, L, SH, x, c, t)) : X G mL_law Q 1212 [some (aO x0), some (aR (some 0)), some (aR (some 361)), some (aR (some 369)), some (aI x4), some (aI x5), o6, o7, none] [aI y0] (K, R, L, SH, x, c, t) := by
  refine B_L_law_1212 ?_
  try dsimp only
  refine ⟨⟨Nat.zero_le _, Nat.zero_le _, Nat.le_of_ble_eq_true rfl⟩, sh361, C_thrown hG ?_⟩
  refine af_I0 rfl rfl (by decide) ?_
  try dsimp only
  refine B_L_law_1218 ⟨fun _ => ?_, fun q => absurd e q⟩
  refine B_L_law_1225 ?_
  try dsimp only
  refine ⟨fun _ => B_L_law_1242 (hK _ _ _), fun q => ⟨_, sh369, ⟨by decide, by decide⟩, fun _ => B_L_law_1242 (hK _ _ _), fun q2 => ?_⟩⟩
  exfalso
  rw [e2 (by omega)] at q2
  exact q2 (lg_self _)
theorem T_arrivesIn {G : amG} {Q : amR → amH → Prop} {x0 : Nat} {x4 x5 y0 : Int} {o6 o7 : Option amV} {K : Nat → Nat → Int} {R : Nat → Nat → Option Nat} {L : Nat → Nat → Int64} {x c t : Nat} (hG : amG0 G) (e : K 361 0 = x5) (e2 : x5 = 0 → L 369 0 = Int64.ofInt y0) (hK : ∀ p5 p6 p7 : Option amV, X G mL_law Q 1356 [some (aO x0), some (aR (some 0)), some (aR (some 361)), some (aR (some 369)), some (aI x4), p5, p6, p7, none] [] (K, R, L, SH, x, c, t)) : X G mL_law Q 1268 [some (aO x0), some (aR (some 0)), some (aR (some 361)), some (aR (some 369)), some (aI x4), some (aI x5), o6, o7, none] [aI y0] (K, R, L, SH, x, c, t) := by
  refine B_L_law_1268 ?_
  try dsimp only
  refine ⟨⟨Nat.zero_le _, Nat.zero_le _, Nat.le_of_ble_eq_true rfl⟩, sh361, C_thrown hG ?_⟩
  refine af_I0 rfl rfl (by decide) ?_
  try dsimp only
  refine B_L_law_1274 ⟨fun _ => ?_, fun q => absurd e q⟩
  refine B_L_law_1281 ?_
  try dsimp only
  refine ⟨fun _ => B_L_law_1298 (hK _ _ _), fun q => ⟨_, sh369, ⟨by decide, by decide⟩, fun _ => B_L_law_1298 (hK _ _ _), fun q2 => ?_⟩⟩
  exfalso
  rw [e2 (by omega)] at q2
  exact q2 (lg_self _)
theorem S_shape {G : amG} {Q : amR → amH → Prop} {x0 : Nat} {x4 k : Int} {o5 o6 o7 : Option amV} {I : Nat → Nat → Int} {R : Nat → Nat → Option Nat} {L : Nat → Nat → Int64} {x c t : Nat} (hG : amG0 G) (h0 : x0 = gb G) (hg : gn G ≤ 2048) (h4 : 0 ≤ x4 ∧ x4 + 3 < gn G) (hk : 0 ≤ k ∧ k < 600) (hI : LI k I R) (hc : 3 ≤ c ∧ 18 ≤ t) (hK : ∀ (K : Nat → Nat → Int) (R1 : Nat → Nat → Option Nat) (L1 : Nat → Nat → Int64) (x1 c1 t1 : Nat) (p5 p6 p7 : Option amV), LI (k + 1) K R1 → c ≤ c1 + 3 → t ≤ t1 + 18 → X G mL_law Q 1356 [some (aO x0), some (aR (some 0)), some (aR (some 361)), some (aR (some 369)), some (aI x4), p5, p6, p7, none] [] (K, R1, L1, SH, x1, c1, t1)) : X G mL_law Q 140 [some (aO x0), some (aR (some 0)), some (aR (some 361)), some (aR (some 369)), some (aI x4), o5, o6, o7, none] [] (I, R, L, SH, x, c, t) := by
  obtain ⟨zs, hJ⟩ := hI
  have hR : RK R := hJ.1
  have hC : CS I R (I 362) (I 361 2) zs := hJ.2.1
  have hz : ZK k (I 362) := hJ.2.2.1
  have hZ : ZF (I 362) := hz.f (by omega)
  refine B_L_law_140 ?_
  try dsimp only
  refine ⟨by (refine ⟨?_, ?_⟩ <;> omega), h0, ⟨by omega, by omega⟩, by (refine ⟨?_, ?_⟩ <;> omega), h0, ⟨by omega, by omega⟩, by (refine ⟨?_, ?_⟩ <;> omega), h0, ⟨by omega, by omega⟩, ⟨by omega, by omega, Nat.le_of_ble_eq_true rfl⟩, True.intro, ?_⟩
  refine E_shape hG hR hC hZ ?_ ?_ ?_
  · intro p J R' x' c' t' j1 j2 j3 j4 j5
    have e1 : J 361 = I 361 := j1 361 (by decide)
    refine af_I (cc := 3) (tt := 18) rfl rfl (by decide) ?_
    try dsimp only
    refine B_L_law_163 ?_
    try dsimp only
    refine ⟨by (refine ⟨?_, ?_⟩ <;> omega), h0, ⟨by omega, by omega⟩, by (refine ⟨?_, ?_⟩ <;> omega), h0, ⟨by omega, by omega⟩, by (refine ⟨?_, ?_⟩ <;> omega), h0, ⟨by omega, by omega⟩, ⟨Nat.zero_le _, Nat.zero_le _, Nat.le_of_ble_eq_true rfl⟩, sh361, ?_⟩
    refine CT_m3 (j1 362 (by decide)) ?_
    refine C_shape hG j4.m (by rw [e1]; exact hC.2.2.2.1) ⟨fun p2 => ?_, fun p2 => ?_, fun p2 => ?_⟩
    · refine af_I0 rfl rfl (by decide) ?_
      try dsimp only
      exact T_shape hG (m3_0 _ _ _ _ _) (fun h => absurd h (by decide)) (fun p5 p6 p7 => hK _ _ _ _ _ _ p5 p6 p7 (LJ_i hJ hk.2 j1 j2 j3 j4 j5 _ _ _) (by omega) (by omega))
    · exfalso; omega
    · exfalso; omega
  · intro p J R' x' c' t' j1 j2 j3 j4 j5
    have e1 : J 361 = I 361 := j1 361 (by decide)
    refine af_I (cc := 3) (tt := 18) rfl rfl (by decide) ?_
    try dsimp only
    refine B_L_law_163 ?_
    try dsimp only
    refine ⟨by (refine ⟨?_, ?_⟩ <;> omega), h0, ⟨by omega, by omega⟩, by (refine ⟨?_, ?_⟩ <;> omega), h0, ⟨by omega, by omega⟩, by (refine ⟨?_, ?_⟩ <;> omega), h0, ⟨by omega, by omega⟩, ⟨Nat.zero_le _, Nat.zero_le _, Nat.le_of_ble_eq_true rfl⟩, sh361, ?_⟩
    refine CT_m3 (j1 362 (by decide)) ?_
    refine C_shape hG j4.m (by rw [e1]; exact hC.2.2.2.1) ⟨fun p2 => ?_, fun p2 => ?_, fun p2 => ?_⟩
    · exfalso; omega
    · refine af_I0 rfl rfl (by decide) ?_
      try dsimp only
      exact T_shape hG (m3_0 _ _ _ _ _) (fun h => absurd h (by decide)) (fun p5 p6 p7 => hK _ _ _ _ _ _ p5 p6 p7 (LJ_i hJ hk.2 j1 j2 j3 j4 j5 _ _ _) (by omega) (by omega))
    · exfalso; omega
  · intro p J R' x' c' t' j1 j2 j3 j4 j5
    have e1 : J 361 = I 361 := j1 361 (by decide)
    refine af_I (cc := 3) (tt := 18) rfl rfl (by decide) ?_
    try dsimp only
    refine B_L_law_163 ?_
    try dsimp only
    refine ⟨by (refine ⟨?_, ?_⟩ <;> omega), h0, ⟨by omega, by omega⟩, by (refine ⟨?_, ?_⟩ <;> omega), h0, ⟨by omega, by omega⟩, by (refine ⟨?_, ?_⟩ <;> omega), h0, ⟨by omega, by omega⟩, ⟨Nat.zero_le _, Nat.zero_le _, Nat.le_of_ble_eq_true rfl⟩, sh361, ?_⟩
    refine CT_m3 (j1 362 (by decide)) ?_
    refine C_shape hG j4.m (by rw [e1]; exact hC.2.2.2.1) ⟨fun p2 => ?_, fun p2 => ?_, fun p2 => ?_⟩
    · exfalso; omega
    · exfalso; omega
    · refine af_I0 rfl rfl (by decide) ?_
      try dsimp only
      exact T_shape hG (m3_0w _ _ _ _ _ _) (fun _ => u2_same _ _ _ _) (fun p5 p6 p7 => hK _ _ _ _ _ _ p5 p6 p7 (LJ_w hJ hk.2 (ZK_sh hz p) j1 j2 j3 j4 j5 _ _) (by omega) (by omega))
theorem S_moveGeneral {G : amG} {Q : amR → amH → Prop} {x0 : Nat} {x4 k : Int} {o5 o6 o7 : Option amV} {I : Nat → Nat → Int} {R : Nat → Nat → Option Nat} {L : Nat → Nat → Int64} {x c t : Nat} (hG : amG0 G) (h0 : x0 = gb G) (hg : gn G ≤ 2048) (h4 : 0 ≤ x4 ∧ x4 + 3 < gn G) (hk : 0 ≤ k ∧ k < 600) (hI : LI k I R) (hc : 3 ≤ c ∧ 18 ≤ t) (hK : ∀ (K : Nat → Nat → Int) (R1 : Nat → Nat → Option Nat) (L1 : Nat → Nat → Int64) (x1 c1 t1 : Nat) (p5 p6 p7 : Option amV), LI (k + 1) K R1 → c ≤ c1 + 3 → t ≤ t1 + 18 → X G mL_law Q 1356 [some (aO x0), some (aR (some 0)), some (aR (some 361)), some (aR (some 369)), some (aI x4), p5, p6, p7, none] [] (K, R1, L1, SH, x1, c1, t1)) : X G mL_law Q 220 [some (aO x0), some (aR (some 0)), some (aR (some 361)), some (aR (some 369)), some (aI x4), o5, o6, o7, none] [] (I, R, L, SH, x, c, t) := by
  obtain ⟨zs, hJ⟩ := hI
  have hR : RK R := hJ.1
  have hC : CS I R (I 362) (I 361 2) zs := hJ.2.1
  have hz : ZK k (I 362) := hJ.2.2.1
  have hZ : ZF (I 362) := hz.f (by omega)
  refine B_L_law_220 ?_
  try dsimp only
  refine ⟨by (refine ⟨?_, ?_⟩ <;> omega), h0, ⟨by omega, by omega⟩, by (refine ⟨?_, ?_⟩ <;> omega), h0, ⟨by omega, by omega⟩, ⟨by omega, by omega, Nat.le_of_ble_eq_true rfl⟩, True.intro, ?_⟩
  refine E_moveGeneral hG hR hC hZ ?_ ?_
  · intro p J R' x' c' t' j1 j2 j3 j4 j5
    have e1 : J 361 = I 361 := j1 361 (by decide)
    refine af_I (cc := 2) (tt := 12) rfl rfl (by decide) ?_
    try dsimp only
    refine B_L_law_237 ?_
    try dsimp only
    refine ⟨by (refine ⟨?_, ?_⟩ <;> omega), h0, ⟨by omega, by omega⟩, by (refine ⟨?_, ?_⟩ <;> omega), h0, ⟨by omega, by omega⟩, ⟨Nat.zero_le _, Nat.zero_le _, Nat.le_of_ble_eq_true rfl⟩, sh361, ?_⟩
    refine CT_m3 (j1 362 (by decide)) ?_
    refine C_moveGeneral hG j4.m (by rw [e1]; exact hC.2.2.2.1) ⟨fun p2 => ?_, fun p2 => ?_⟩
    · refine af_I0 rfl rfl (by decide) ?_
      try dsimp only
      exact T_moveGeneral hG (m3_0 _ _ _ _ _) (fun h => absurd h (by decide)) (fun p5 p6 p7 => hK _ _ _ _ _ _ p5 p6 p7 (LJ_i hJ hk.2 j1 j2 j3 j4 j5 _ _ _) (by omega) (by omega))
    · exfalso; omega
  · intro p J R' x' c' t' j1 j2 j3 j4 j5
    have e1 : J 361 = I 361 := j1 361 (by decide)
    refine af_I (cc := 2) (tt := 12) rfl rfl (by decide) ?_
    try dsimp only
    refine B_L_law_237 ?_
    try dsimp only
    refine ⟨by (refine ⟨?_, ?_⟩ <;> omega), h0, ⟨by omega, by omega⟩, by (refine ⟨?_, ?_⟩ <;> omega), h0, ⟨by omega, by omega⟩, ⟨Nat.zero_le _, Nat.zero_le _, Nat.le_of_ble_eq_true rfl⟩, sh361, ?_⟩
    refine CT_m3 (j1 362 (by decide)) ?_
    refine C_moveGeneral hG j4.m (by rw [e1]; exact hC.2.2.2.1) ⟨fun p2 => ?_, fun p2 => ?_⟩
    · exfalso; omega
    · refine af_I0 rfl rfl (by decide) ?_
      try dsimp only
      exact T_moveGeneral hG (m3_0w _ _ _ _ _ _) (fun _ => u2_same _ _ _ _) (fun p5 p6 p7 => hK _ _ _ _ _ _ p5 p6 p7 (LJ_w hJ hk.2 (ZK_mg hz p) j1 j2 j3 j4 j5 _ _) (by omega) (by omega))
theorem S_addTroop {G : amG} {Q : amR → amH → Prop} {x0 : Nat} {x4 k : Int} {o5 o6 o7 : Option amV} {I : Nat → Nat → Int} {R : Nat → Nat → Option Nat} {L : Nat → Nat → Int64} {x c t : Nat} (hG : amG0 G) (h0 : x0 = gb G) (hg : gn G ≤ 2048) (h4 : 0 ≤ x4 ∧ x4 + 3 < gn G) (hk : 0 ≤ k ∧ k < 600) (hI : LI k I R) (hc : 3 ≤ c ∧ 18 ≤ t) (hK : ∀ (K : Nat → Nat → Int) (R1 : Nat → Nat → Option Nat) (L1 : Nat → Nat → Int64) (x1 c1 t1 : Nat) (p5 p6 p7 : Option amV), LI (k + 1) K R1 → c ≤ c1 + 3 → t ≤ t1 + 18 → X G mL_law Q 1356 [some (aO x0), some (aR (some 0)), some (aR (some 361)), some (aR (some 369)), some (aI x4), p5, p6, p7, none] [] (K, R1, L1, SH, x1, c1, t1)) : X G mL_law Q 288 [some (aO x0), some (aR (some 0)), some (aR (some 361)), some (aR (some 369)), some (aI x4), o5, o6, o7, none] [] (I, R, L, SH, x, c, t) := by
  obtain ⟨zs, hJ⟩ := hI
  have hR : RK R := hJ.1
  have hC : CS I R (I 362) (I 361 2) zs := hJ.2.1
  have hz : ZK k (I 362) := hJ.2.2.1
  have hZ : ZF (I 362) := hz.f (by omega)
  refine B_L_law_288 ?_
  try dsimp only
  refine ⟨by (refine ⟨?_, ?_⟩ <;> omega), h0, ⟨by omega, by omega⟩, by (refine ⟨?_, ?_⟩ <;> omega), h0, ⟨by omega, by omega⟩, by (refine ⟨?_, ?_⟩ <;> omega), h0, ⟨by omega, by omega⟩, ⟨by omega, by omega, Nat.le_of_ble_eq_true rfl⟩, True.intro, ?_⟩
  refine E_addTroop hG hR hC hZ ?_ ?_ ?_ ?_
  · intro p J R' x' c' t' j1 j2 j3 j4 j5
    have e1 : J 361 = I 361 := j1 361 (by decide)
    refine af_I (cc := 3) (tt := 18) rfl rfl (by decide) ?_
    try dsimp only
    refine B_L_law_311 ?_
    try dsimp only
    refine ⟨by (refine ⟨?_, ?_⟩ <;> omega), h0, ⟨by omega, by omega⟩, by (refine ⟨?_, ?_⟩ <;> omega), h0, ⟨by omega, by omega⟩, by (refine ⟨?_, ?_⟩ <;> omega), h0, ⟨by omega, by omega⟩, ⟨Nat.zero_le _, Nat.zero_le _, Nat.le_of_ble_eq_true rfl⟩, sh361, ?_⟩
    refine CT_m3 (j1 362 (by decide)) ?_
    refine C_addTroop hG j4.m hz.1 (by rw [e1]; exact hC.2.2.2.1) ⟨fun p2 => ?_, fun p2 => ?_, fun p2 => ?_, fun p2 => ?_⟩
    · refine af_I0 rfl rfl (by decide) ?_
      try dsimp only
      exact T_addTroop hG (m3_0 _ _ _ _ _) (fun h => absurd h (by decide)) (fun p5 p6 p7 => hK _ _ _ _ _ _ p5 p6 p7 (LJ_i hJ hk.2 j1 j2 j3 j4 j5 _ _ _) (by omega) (by omega))
    · exfalso; omega
    · exfalso; omega
    · exfalso; omega
  · intro p J R' x' c' t' j1 j2 j3 j4 j5
    have e1 : J 361 = I 361 := j1 361 (by decide)
    refine af_I (cc := 3) (tt := 18) rfl rfl (by decide) ?_
    try dsimp only
    refine B_L_law_311 ?_
    try dsimp only
    refine ⟨by (refine ⟨?_, ?_⟩ <;> omega), h0, ⟨by omega, by omega⟩, by (refine ⟨?_, ?_⟩ <;> omega), h0, ⟨by omega, by omega⟩, by (refine ⟨?_, ?_⟩ <;> omega), h0, ⟨by omega, by omega⟩, ⟨Nat.zero_le _, Nat.zero_le _, Nat.le_of_ble_eq_true rfl⟩, sh361, ?_⟩
    refine CT_m3 (j1 362 (by decide)) ?_
    refine C_addTroop hG j4.m hz.1 (by rw [e1]; exact hC.2.2.2.1) ⟨fun p2 => ?_, fun p2 => ?_, fun p2 => ?_, fun p2 => ?_⟩
    · exfalso; omega
    · refine af_I0 rfl rfl (by decide) ?_
      try dsimp only
      exact T_addTroop hG (m3_0 _ _ _ _ _) (fun h => absurd h (by decide)) (fun p5 p6 p7 => hK _ _ _ _ _ _ p5 p6 p7 (LJ_i hJ hk.2 j1 j2 j3 j4 j5 _ _ _) (by omega) (by omega))
    · exfalso; omega
    · exfalso; omega
  · intro p J R' x' c' t' j1 j2 j3 j4 j5
    have e1 : J 361 = I 361 := j1 361 (by decide)
    refine af_I (cc := 3) (tt := 18) rfl rfl (by decide) ?_
    try dsimp only
    refine B_L_law_311 ?_
    try dsimp only
    refine ⟨by (refine ⟨?_, ?_⟩ <;> omega), h0, ⟨by omega, by omega⟩, by (refine ⟨?_, ?_⟩ <;> omega), h0, ⟨by omega, by omega⟩, by (refine ⟨?_, ?_⟩ <;> omega), h0, ⟨by omega, by omega⟩, ⟨Nat.zero_le _, Nat.zero_le _, Nat.le_of_ble_eq_true rfl⟩, sh361, ?_⟩
    refine CT_m3 (j1 362 (by decide)) ?_
    refine C_addTroop hG j4.m hz.1 (by rw [e1]; exact hC.2.2.2.1) ⟨fun p2 => ?_, fun p2 => ?_, fun p2 => ?_, fun p2 => ?_⟩
    · exfalso; omega
    · exfalso; omega
    · refine af_I0 rfl rfl (by decide) ?_
      try dsimp only
      exact T_addTroop hG (m3_0 _ _ _ _ _) (fun h => absurd h (by decide)) (fun p5 p6 p7 => hK _ _ _ _ _ _ p5 p6 p7 (LJ_i hJ hk.2 j1 j2 j3 j4 j5 _ _ _) (by omega) (by omega))
    · exfalso; omega
  · intro p J R' x' c' t' j1 j2 j3 j4 j5
    have e1 : J 361 = I 361 := j1 361 (by decide)
    refine af_I (cc := 3) (tt := 18) rfl rfl (by decide) ?_
    try dsimp only
    refine B_L_law_311 ?_
    try dsimp only
    refine ⟨by (refine ⟨?_, ?_⟩ <;> omega), h0, ⟨by omega, by omega⟩, by (refine ⟨?_, ?_⟩ <;> omega), h0, ⟨by omega, by omega⟩, by (refine ⟨?_, ?_⟩ <;> omega), h0, ⟨by omega, by omega⟩, ⟨Nat.zero_le _, Nat.zero_le _, Nat.le_of_ble_eq_true rfl⟩, sh361, ?_⟩
    refine CT_m3 (j1 362 (by decide)) ?_
    refine C_addTroop hG j4.m hz.1 (by rw [e1]; exact hC.2.2.2.1) ⟨fun p2 => ?_, fun p2 => ?_, fun p2 => ?_, fun p2 => ?_⟩
    · exfalso; omega
    · exfalso; omega
    · exfalso; omega
    · refine af_I0 rfl rfl (by decide) ?_
      try dsimp only
      exact T_addTroop hG (m3_0w _ _ _ _ _ _) (fun _ => u2_same _ _ _ _) (fun p5 p6 p7 => hK _ _ _ _ _ _ p5 p6 p7 (LJ_w hJ hk.2 (ZK_ad hz p) j1 j2 j3 j4 j5 _ _) (by omega) (by omega))
theorem S_order {G : amG} {Q : amR → amH → Prop} {x0 : Nat} {x4 k : Int} {o5 o6 o7 : Option amV} {I : Nat → Nat → Int} {R : Nat → Nat → Option Nat} {L : Nat → Nat → Int64} {x c t : Nat} (hG : amG0 G) (h0 : x0 = gb G) (hg : gn G ≤ 2048) (h4 : 0 ≤ x4 ∧ x4 + 3 < gn G) (hk : 0 ≤ k ∧ k < 600) (hI : LI k I R) (hc : 3 ≤ c ∧ 18 ≤ t) (hK : ∀ (K : Nat → Nat → Int) (R1 : Nat → Nat → Option Nat) (L1 : Nat → Nat → Int64) (x1 c1 t1 : Nat) (p5 p6 p7 : Option amV), LI (k + 1) K R1 → c ≤ c1 + 3 → t ≤ t1 + 18 → X G mL_law Q 1356 [some (aO x0), some (aR (some 0)), some (aR (some 361)), some (aR (some 369)), some (aI x4), p5, p6, p7, none] [] (K, R1, L1, SH, x1, c1, t1)) : X G mL_law Q 368 [some (aO x0), some (aR (some 0)), some (aR (some 361)), some (aR (some 369)), some (aI x4), o5, o6, o7, none] [] (I, R, L, SH, x, c, t) := by
  obtain ⟨zs, hJ⟩ := hI
  have hR : RK R := hJ.1
  have hC : CS I R (I 362) (I 361 2) zs := hJ.2.1
  have hz : ZK k (I 362) := hJ.2.2.1
  have hZ : ZF (I 362) := hz.f (by omega)
  refine B_L_law_368 ?_
  try dsimp only
  refine ⟨by (refine ⟨?_, ?_⟩ <;> omega), h0, ⟨by omega, by omega⟩, by (refine ⟨?_, ?_⟩ <;> omega), h0, ⟨by omega, by omega⟩, ⟨by omega, by omega, Nat.le_of_ble_eq_true rfl⟩, True.intro, ?_⟩
  refine E_order hG hR hC hZ ?_ ?_ ?_
  · intro p J R' x' c' t' j1 j2 j3 j4 j5
    have e1 : J 361 = I 361 := j1 361 (by decide)
    refine af_I (cc := 3) (tt := 18) rfl rfl (by decide) ?_
    try dsimp only
    refine B_L_law_385 ?_
    try dsimp only
    refine ⟨by (refine ⟨?_, ?_⟩ <;> omega), h0, ⟨by omega, by omega⟩, by (refine ⟨?_, ?_⟩ <;> omega), h0, ⟨by omega, by omega⟩, ⟨Nat.zero_le _, Nat.zero_le _, Nat.le_of_ble_eq_true rfl⟩, sh361, ?_⟩
    refine CT_m3 (j1 362 (by decide)) ?_
    refine C_order hG j4.m hz.1 hz.2.1 (by rw [e1]; exact hC.2.2.2.1) ⟨fun p2 => ?_, fun p2 => ?_, fun p2 => ?_⟩
    · refine af_I0 rfl rfl (by decide) ?_
      try dsimp only
      exact T_order hG (m3_0 _ _ _ _ _) (fun h => absurd h (by decide)) (fun p5 p6 p7 => hK _ _ _ _ _ _ p5 p6 p7 (LJ_i hJ hk.2 j1 j2 j3 j4 j5 _ _ _) (by omega) (by omega))
    · exfalso; omega
    · exfalso; omega
  · intro p J R' x' c' t' j1 j2 j3 j4 j5
    have e1 : J 361 = I 361 := j1 361 (by decide)
    refine af_I (cc := 3) (tt := 18) rfl rfl (by decide) ?_
    try dsimp only
    refine B_L_law_385 ?_
    try dsimp only
    refine ⟨by (refine ⟨?_, ?_⟩ <;> omega), h0, ⟨by omega, by omega⟩, by (refine ⟨?_, ?_⟩ <;> omega), h0, ⟨by omega, by omega⟩, ⟨Nat.zero_le _, Nat.zero_le _, Nat.le_of_ble_eq_true rfl⟩, sh361, ?_⟩
    refine CT_m3 (j1 362 (by decide)) ?_
    refine C_order hG j4.m hz.1 hz.2.1 (by rw [e1]; exact hC.2.2.2.1) ⟨fun p2 => ?_, fun p2 => ?_, fun p2 => ?_⟩
    · exfalso; omega
    · intro f2 q2
      refine af_I0 rfl rfl (by decide) ?_
      try dsimp only
      exact T_order hG (m3_0 _ _ _ _ _) (fun h => absurd h (by decide)) (fun p5 p6 p7 => hK _ _ _ _ _ _ p5 p6 p7 (LJ_i hJ hk.2 j1 j2 j3 j4 j5 _ _ _) (by omega) (by omega))
    · exfalso; omega
  · intro p J R' x' c' t' j1 j2 j3 j4 j5
    have e1 : J 361 = I 361 := j1 361 (by decide)
    refine af_I (cc := 3) (tt := 18) rfl rfl (by decide) ?_
    try dsimp only
    refine B_L_law_385 ?_
    try dsimp only
    refine ⟨by (refine ⟨?_, ?_⟩ <;> omega), h0, ⟨by omega, by omega⟩, by (refine ⟨?_, ?_⟩ <;> omega), h0, ⟨by omega, by omega⟩, ⟨Nat.zero_le _, Nat.zero_le _, Nat.le_of_ble_eq_true rfl⟩, sh361, ?_⟩
    refine CT_m3 (j1 362 (by decide)) ?_
    refine C_order hG j4.m hz.1 hz.2.1 (by rw [e1]; exact hC.2.2.2.1) ⟨fun p2 => ?_, fun p2 => ?_, fun p2 => ?_⟩
    · exfalso; omega
    · exfalso; omega
    · intro f2 q2
      refine af_I0 rfl rfl (by decide) ?_
      try dsimp only
      exact T_order hG (m3_0w _ _ _ _ _ _) (fun _ => u2_same _ _ _ _) (fun p5 p6 p7 => hK _ _ _ _ _ _ p5 p6 p7 (LJ_w hJ hk.2 (ZK_gi hz (by omega) p) j1 j2 j3 j4 j5 _ _) (by omega) (by omega))
theorem S_pass {G : amG} {Q : amR → amH → Prop} {x0 : Nat} {x4 k : Int} {o5 o6 o7 : Option amV} {I : Nat → Nat → Int} {R : Nat → Nat → Option Nat} {L : Nat → Nat → Int64} {x c t : Nat} (hG : amG0 G) (h0 : x0 = gb G) (hg : gn G ≤ 2048) (h4 : 0 ≤ x4 ∧ x4 + 3 < gn G) (hk : 0 ≤ k ∧ k < 600) (hI : LI k I R) (hc : 3 ≤ c ∧ 18 ≤ t) (hK : ∀ (K : Nat → Nat → Int) (R1 : Nat → Nat → Option Nat) (L1 : Nat → Nat → Int64) (x1 c1 t1 : Nat) (p5 p6 p7 : Option amV), LI (k + 1) K R1 → c ≤ c1 + 3 → t ≤ t1 + 18 → X G mL_law Q 1356 [some (aO x0), some (aR (some 0)), some (aR (some 361)), some (aR (some 369)), some (aI x4), p5, p6, p7, none] [] (K, R1, L1, SH, x1, c1, t1)) : X G mL_law Q 436 [some (aO x0), some (aR (some 0)), some (aR (some 361)), some (aR (some 369)), some (aI x4), o5, o6, o7, none] [] (I, R, L, SH, x, c, t) := by
  obtain ⟨zs, hJ⟩ := hI
  have hR : RK R := hJ.1
  have hC : CS I R (I 362) (I 361 2) zs := hJ.2.1
  have hz : ZK k (I 362) := hJ.2.2.1
  have hZ : ZF (I 362) := hz.f (by omega)
  refine B_L_law_436 ?_
  try dsimp only
  refine ⟨by (refine ⟨?_, ?_⟩ <;> omega), h0, ⟨by omega, by omega⟩, ⟨by omega, by omega, Nat.le_of_ble_eq_true rfl⟩, True.intro, ?_⟩
  refine E_pass hG hR hC hZ ?_ ?_ ?_
  · intro p J R' x' c' t' j1 j2 j3 j4 j5
    have e1 : J 361 = I 361 := j1 361 (by decide)
    refine af_I (cc := 2) (tt := 12) rfl rfl (by decide) ?_
    try dsimp only
    refine B_L_law_447 ?_
    try dsimp only
    refine ⟨by (refine ⟨?_, ?_⟩ <;> omega), h0, ⟨by omega, by omega⟩, ⟨Nat.zero_le _, Nat.zero_le _, Nat.le_of_ble_eq_true rfl⟩, sh361, ?_⟩
    refine CT_m3 (j1 362 (by decide)) ?_
    refine C_pass hG j4.m hz.1 hz.2.1 (by rw [e1]; exact hC.2.2.2.1) ⟨fun p2 => ?_, fun p2 => ?_, fun p2 => ?_⟩
    · refine af_I0 rfl rfl (by decide) ?_
      try dsimp only
      exact T_pass hG (m3_0 _ _ _ _ _) (fun h => absurd h (by decide)) (fun p5 p6 p7 => hK _ _ _ _ _ _ p5 p6 p7 (LJ_i hJ hk.2 j1 j2 j3 j4 j5 _ _ _) (by omega) (by omega))
    · exfalso; omega
    · exfalso; omega
  · intro p J R' x' c' t' j1 j2 j3 j4 j5
    have e1 : J 361 = I 361 := j1 361 (by decide)
    refine af_I (cc := 2) (tt := 12) rfl rfl (by decide) ?_
    try dsimp only
    refine B_L_law_447 ?_
    try dsimp only
    refine ⟨by (refine ⟨?_, ?_⟩ <;> omega), h0, ⟨by omega, by omega⟩, ⟨Nat.zero_le _, Nat.zero_le _, Nat.le_of_ble_eq_true rfl⟩, sh361, ?_⟩
    refine CT_m3 (j1 362 (by decide)) ?_
    refine C_pass hG j4.m hz.1 hz.2.1 (by rw [e1]; exact hC.2.2.2.1) ⟨fun p2 => ?_, fun p2 => ?_, fun p2 => ?_⟩
    · exfalso; omega
    · refine af_I0 rfl rfl (by decide) ?_
      try dsimp only
      exact T_pass hG (m3_0 _ _ _ _ _) (fun h => absurd h (by decide)) (fun p5 p6 p7 => hK _ _ _ _ _ _ p5 p6 p7 (LJ_i hJ hk.2 j1 j2 j3 j4 j5 _ _ _) (by omega) (by omega))
    · exfalso; omega
  · intro p J R' x' c' t' j1 j2 j3 j4 j5
    have e1 : J 361 = I 361 := j1 361 (by decide)
    refine af_I (cc := 2) (tt := 12) rfl rfl (by decide) ?_
    try dsimp only
    refine B_L_law_447 ?_
    try dsimp only
    refine ⟨by (refine ⟨?_, ?_⟩ <;> omega), h0, ⟨by omega, by omega⟩, ⟨Nat.zero_le _, Nat.zero_le _, Nat.le_of_ble_eq_true rfl⟩, sh361, ?_⟩
    refine CT_m3 (j1 362 (by decide)) ?_
    refine C_pass hG j4.m hz.1 hz.2.1 (by rw [e1]; exact hC.2.2.2.1) ⟨fun p2 => ?_, fun p2 => ?_, fun p2 => ?_⟩
    · exfalso; omega
    · exfalso; omega
    · intro f2 q2
      refine af_I0 rfl rfl (by decide) ?_
      try dsimp only
      exact T_pass hG (m3_0w _ _ _ _ _ _) (fun _ => u2_same _ _ _ _) (fun p5 p6 p7 => hK _ _ _ _ _ _ p5 p6 p7 (LJ_w hJ hk.2 (ZK_pa hz p) j1 j2 j3 j4 j5 _ _) (by omega) (by omega))
theorem S_cell {G : amG} {Q : amR → amH → Prop} {x0 : Nat} {x4 k : Int} {o5 o6 o7 : Option amV} {I : Nat → Nat → Int} {R : Nat → Nat → Option Nat} {L : Nat → Nat → Int64} {x c t : Nat} (hG : amG0 G) (h0 : x0 = gb G) (hg : gn G ≤ 2048) (h4 : 0 ≤ x4 ∧ x4 + 3 < gn G) (hk : 0 ≤ k ∧ k < 600) (hI : LI k I R) (hc : 3 ≤ c ∧ 18 ≤ t) (hK : ∀ (K : Nat → Nat → Int) (R1 : Nat → Nat → Option Nat) (L1 : Nat → Nat → Int64) (x1 c1 t1 : Nat) (p5 p6 p7 : Option amV), LI (k + 1) K R1 → c ≤ c1 + 3 → t ≤ t1 + 18 → X G mL_law Q 1356 [some (aO x0), some (aR (some 0)), some (aR (some 361)), some (aR (some 369)), some (aI x4), p5, p6, p7, none] [] (K, R1, L1, SH, x1, c1, t1)) : X G mL_law Q 662 [some (aO x0), some (aR (some 0)), some (aR (some 361)), some (aR (some 369)), some (aI x4), o5, o6, o7, none] [] (I, R, L, SH, x, c, t) := by
  obtain ⟨zs, hJ⟩ := hI
  have hR : RK R := hJ.1
  have hC : CS I R (I 362) (I 361 2) zs := hJ.2.1
  have hz : ZK k (I 362) := hJ.2.2.1
  have hZ : ZF (I 362) := hz.f (by omega)
  refine B_L_law_662 ?_
  try dsimp only
  refine ⟨by (refine ⟨?_, ?_⟩ <;> omega), h0, ⟨by omega, by omega⟩, by (refine ⟨?_, ?_⟩ <;> omega), h0, ⟨by omega, by omega⟩, ⟨by omega, by omega, Nat.le_of_ble_eq_true rfl⟩, True.intro, ?_⟩
  refine E_cell hG hR hC hZ ?_ ?_ ?_
  · intro p J R' x' c' t' j1 j2 j3 j4 j5
    have e1 : J 361 = I 361 := j1 361 (by decide)
    refine af_I (cc := 2) (tt := 12) rfl rfl (by decide) ?_
    try dsimp only
    refine B_L_law_679 ?_
    try dsimp only
    refine ⟨by (refine ⟨?_, ?_⟩ <;> omega), h0, ⟨by omega, by omega⟩, by (refine ⟨?_, ?_⟩ <;> omega), h0, ⟨by omega, by omega⟩, ⟨Nat.zero_le _, Nat.zero_le _, Nat.le_of_ble_eq_true rfl⟩, sh361, ?_⟩
    refine CT_m3 (j1 362 (by decide)) ?_
    refine C_cell hG j4.m hz.1.1.1 hz.1.1.2.1 ⟨fun p2 => ?_, fun p2 => ?_, fun p2 => ?_⟩
    · refine af_I0 rfl rfl (by decide) ?_
      try dsimp only
      exact T_cell hG (m3_0 _ _ _ _ _) (fun h => absurd h (by decide)) (fun p5 p6 p7 => hK _ _ _ _ _ _ p5 p6 p7 (LJ_i hJ hk.2 j1 j2 j3 j4 j5 _ _ _) (by omega) (by omega))
    · exfalso; omega
    · exfalso; omega
  · intro p J R' x' c' t' j1 j2 j3 j4 j5
    have e1 : J 361 = I 361 := j1 361 (by decide)
    refine af_I (cc := 2) (tt := 12) rfl rfl (by decide) ?_
    try dsimp only
    refine B_L_law_679 ?_
    try dsimp only
    refine ⟨by (refine ⟨?_, ?_⟩ <;> omega), h0, ⟨by omega, by omega⟩, by (refine ⟨?_, ?_⟩ <;> omega), h0, ⟨by omega, by omega⟩, ⟨Nat.zero_le _, Nat.zero_le _, Nat.le_of_ble_eq_true rfl⟩, sh361, ?_⟩
    refine CT_m3 (j1 362 (by decide)) ?_
    refine C_cell hG j4.m hz.1.1.1 hz.1.1.2.1 ⟨fun p2 => ?_, fun p2 => ?_, fun p2 => ?_⟩
    · exfalso; omega
    · refine af_I0 rfl rfl (by decide) ?_
      try dsimp only
      exact T_cell hG (m3_0 _ _ _ _ _) (fun h => absurd h (by decide)) (fun p5 p6 p7 => hK _ _ _ _ _ _ p5 p6 p7 (LJ_i hJ hk.2 j1 j2 j3 j4 j5 _ _ _) (by omega) (by omega))
    · exfalso; omega
  · intro p J R' x' c' t' j1 j2 j3 j4 j5
    have e1 : J 361 = I 361 := j1 361 (by decide)
    refine af_I (cc := 2) (tt := 12) rfl rfl (by decide) ?_
    try dsimp only
    refine B_L_law_679 ?_
    try dsimp only
    refine ⟨by (refine ⟨?_, ?_⟩ <;> omega), h0, ⟨by omega, by omega⟩, by (refine ⟨?_, ?_⟩ <;> omega), h0, ⟨by omega, by omega⟩, ⟨Nat.zero_le _, Nat.zero_le _, Nat.le_of_ble_eq_true rfl⟩, sh361, ?_⟩
    refine CT_m3 (j1 362 (by decide)) ?_
    refine C_cell hG j4.m hz.1.1.1 hz.1.1.2.1 ⟨fun p2 => ?_, fun p2 => ?_, fun p2 => ?_⟩
    · exfalso; omega
    · exfalso; omega
    · refine af_I0 rfl rfl (by decide) ?_
      try dsimp only
      exact T_cell hG (m3_0 _ _ _ _ _) (fun _ => u2_same _ _ _ _) (fun p5 p6 p7 => hK _ _ _ _ _ _ p5 p6 p7 (LJ_i hJ hk.2 j1 j2 j3 j4 j5 _ _ _) (by omega) (by omega))
theorem S_troop {G : amG} {Q : amR → amH → Prop} {x0 : Nat} {x4 k : Int} {o5 o6 o7 : Option amV} {I : Nat → Nat → Int} {R : Nat → Nat → Option Nat} {L : Nat → Nat → Int64} {x c t : Nat} (hG : amG0 G) (h0 : x0 = gb G) (hg : gn G ≤ 2048) (h4 : 0 ≤ x4 ∧ x4 + 3 < gn G) (hk : 0 ≤ k ∧ k < 600) (hI : LI k I R) (hc : 3 ≤ c ∧ 18 ≤ t) (hK : ∀ (K : Nat → Nat → Int) (R1 : Nat → Nat → Option Nat) (L1 : Nat → Nat → Int64) (x1 c1 t1 : Nat) (p5 p6 p7 : Option amV), LI (k + 1) K R1 → c ≤ c1 + 3 → t ≤ t1 + 18 → X G mL_law Q 1356 [some (aO x0), some (aR (some 0)), some (aR (some 361)), some (aR (some 369)), some (aI x4), p5, p6, p7, none] [] (K, R1, L1, SH, x1, c1, t1)) : X G mL_law Q 730 [some (aO x0), some (aR (some 0)), some (aR (some 361)), some (aR (some 369)), some (aI x4), o5, o6, o7, none] [] (I, R, L, SH, x, c, t) := by
  obtain ⟨zs, hJ⟩ := hI
  have hR : RK R := hJ.1
  have hC : CS I R (I 362) (I 361 2) zs := hJ.2.1
  have hz : ZK k (I 362) := hJ.2.2.1
  have hZ : ZF (I 362) := hz.f (by omega)
  refine B_L_law_730 ?_
  try dsimp only
  refine ⟨by (refine ⟨?_, ?_⟩ <;> omega), h0, ⟨by omega, by omega⟩, by (refine ⟨?_, ?_⟩ <;> omega), h0, ⟨by omega, by omega⟩, ⟨by omega, by omega, Nat.le_of_ble_eq_true rfl⟩, True.intro, ?_⟩
  refine E_troop hG hR hC hZ ?_ ?_ ?_
  · intro p J R' x' c' t' j1 j2 j3 j4 j5
    have e1 : J 361 = I 361 := j1 361 (by decide)
    refine af_I (cc := 2) (tt := 12) rfl rfl (by decide) ?_
    try dsimp only
    refine B_L_law_747 ?_
    try dsimp only
    refine ⟨by (refine ⟨?_, ?_⟩ <;> omega), h0, ⟨by omega, by omega⟩, by (refine ⟨?_, ?_⟩ <;> omega), h0, ⟨by omega, by omega⟩, ⟨Nat.zero_le _, Nat.zero_le _, Nat.le_of_ble_eq_true rfl⟩, sh361, ?_⟩
    refine CT_m3 (j1 362 (by decide)) ?_
    refine C_troop hG j4.m hz.1.1.2.1 hz.1.2.1.1 ⟨fun p2 => ?_, fun p2 => ?_, fun p2 => ?_⟩
    · refine af_I0 rfl rfl (by decide) ?_
      try dsimp only
      exact T_troop hG (m3_0 _ _ _ _ _) (fun h => absurd h (by decide)) (fun p5 p6 p7 => hK _ _ _ _ _ _ p5 p6 p7 (LJ_i hJ hk.2 j1 j2 j3 j4 j5 _ _ _) (by omega) (by omega))
    · exfalso; omega
    · exfalso; omega
  · intro p J R' x' c' t' j1 j2 j3 j4 j5
    have e1 : J 361 = I 361 := j1 361 (by decide)
    refine af_I (cc := 2) (tt := 12) rfl rfl (by decide) ?_
    try dsimp only
    refine B_L_law_747 ?_
    try dsimp only
    refine ⟨by (refine ⟨?_, ?_⟩ <;> omega), h0, ⟨by omega, by omega⟩, by (refine ⟨?_, ?_⟩ <;> omega), h0, ⟨by omega, by omega⟩, ⟨Nat.zero_le _, Nat.zero_le _, Nat.le_of_ble_eq_true rfl⟩, sh361, ?_⟩
    refine CT_m3 (j1 362 (by decide)) ?_
    refine C_troop hG j4.m hz.1.1.2.1 hz.1.2.1.1 ⟨fun p2 => ?_, fun p2 => ?_, fun p2 => ?_⟩
    · exfalso; omega
    · refine af_I0 rfl rfl (by decide) ?_
      try dsimp only
      exact T_troop hG (m3_0 _ _ _ _ _) (fun h => absurd h (by decide)) (fun p5 p6 p7 => hK _ _ _ _ _ _ p5 p6 p7 (LJ_i hJ hk.2 j1 j2 j3 j4 j5 _ _ _) (by omega) (by omega))
    · exfalso; omega
  · intro p J R' x' c' t' j1 j2 j3 j4 j5
    have e1 : J 361 = I 361 := j1 361 (by decide)
    refine af_I (cc := 2) (tt := 12) rfl rfl (by decide) ?_
    try dsimp only
    refine B_L_law_747 ?_
    try dsimp only
    refine ⟨by (refine ⟨?_, ?_⟩ <;> omega), h0, ⟨by omega, by omega⟩, by (refine ⟨?_, ?_⟩ <;> omega), h0, ⟨by omega, by omega⟩, ⟨Nat.zero_le _, Nat.zero_le _, Nat.le_of_ble_eq_true rfl⟩, sh361, ?_⟩
    refine CT_m3 (j1 362 (by decide)) ?_
    refine C_troop hG j4.m hz.1.1.2.1 hz.1.2.1.1 ⟨fun p2 => ?_, fun p2 => ?_, fun p2 => ?_⟩
    · exfalso; omega
    · exfalso; omega
    · refine af_I0 rfl rfl (by decide) ?_
      try dsimp only
      exact T_troop hG (m3_0 _ _ _ _ _) (fun _ => u2_same _ _ _ _) (fun p5 p6 p7 => hK _ _ _ _ _ _ p5 p6 p7 (LJ_i hJ hk.2 j1 j2 j3 j4 j5 _ _ _) (by omega) (by omega))
theorem S_underWay {G : amG} {Q : amR → amH → Prop} {x0 : Nat} {x4 k : Int} {o5 o6 o7 : Option amV} {I : Nat → Nat → Int} {R : Nat → Nat → Option Nat} {L : Nat → Nat → Int64} {x c t : Nat} (hG : amG0 G) (h0 : x0 = gb G) (hg : gn G ≤ 2048) (h4 : 0 ≤ x4 ∧ x4 + 3 < gn G) (hk : 0 ≤ k ∧ k < 600) (hI : LI k I R) (hc : 3 ≤ c ∧ 18 ≤ t) (hK : ∀ (K : Nat → Nat → Int) (R1 : Nat → Nat → Option Nat) (L1 : Nat → Nat → Int64) (x1 c1 t1 : Nat) (p5 p6 p7 : Option amV), LI (k + 1) K R1 → c ≤ c1 + 3 → t ≤ t1 + 18 → X G mL_law Q 1356 [some (aO x0), some (aR (some 0)), some (aR (some 361)), some (aR (some 369)), some (aI x4), p5, p6, p7, none] [] (K, R1, L1, SH, x1, c1, t1)) : X G mL_law Q 798 [some (aO x0), some (aR (some 0)), some (aR (some 361)), some (aR (some 369)), some (aI x4), o5, o6, o7, none] [] (I, R, L, SH, x, c, t) := by
  obtain ⟨zs, hJ⟩ := hI
  have hR : RK R := hJ.1
  have hC : CS I R (I 362) (I 361 2) zs := hJ.2.1
  have hz : ZK k (I 362) := hJ.2.2.1
  have hZ : ZF (I 362) := hz.f (by omega)
  have h30 := hz.1.2.1
  have hd : ∀ l : Nat, (l : Int) < I 362 195 → 0 ≤ I 362 (196 + 4 * l + 3) ∧ I 362 (196 + 4 * l + 3) ≤ 1100 := fun l hl => by
    have q := h30.2 l hl
    have q2 := hz.1.2.2.1
    omega
  have hex : ∀ p : Int, 0 ≤ p → p < I 362 195 → ∃ o : Nat, (o : Int) < I 362 195 ∧ rkN (I 362) o (I 362 195).toNat = p := fun p a b => by
    obtain ⟨o, o1, o2⟩ := rk_onto (I 362) (I 362 195).toNat p.toNat (by omega)
    exact ⟨o, by omega, by omega⟩
  refine B_L_law_798 ?_
  try dsimp only
  refine ⟨by (refine ⟨?_, ?_⟩ <;> omega), h0, ⟨by omega, by omega⟩, by (refine ⟨?_, ?_⟩ <;> omega), h0, ⟨by omega, by omega⟩, ⟨by omega, by omega, Nat.le_of_ble_eq_true rfl⟩, True.intro, ?_⟩
  refine E_underWay hG hR hC hZ ?_ ?_ ?_
  · intro p J R' x' c' t' j1 j2 j3 j4 j5
    have e1 : J 361 = I 361 := j1 361 (by decide)
    refine af_I (cc := 2) (tt := 12) rfl rfl (by decide) ?_
    try dsimp only
    refine B_L_law_815 ?_
    try dsimp only
    refine ⟨by (refine ⟨?_, ?_⟩ <;> omega), h0, ⟨by omega, by omega⟩, by (refine ⟨?_, ?_⟩ <;> omega), h0, ⟨by omega, by omega⟩, ⟨Nat.zero_le _, Nat.zero_le _, Nat.le_of_ble_eq_true rfl⟩, sh361, ?_⟩
    refine CT_m3 (j1 362 (by decide)) ?_
    refine C_underWay hG j4.m hz.1.2.1.1 hd (hex _) ⟨fun p2 => ?_, fun p2 => ?_, fun p2 => ?_⟩
    · refine af_I0 rfl rfl (by decide) ?_
      try dsimp only
      exact T_underWay hG (m3_0 _ _ _ _ _) (fun h => absurd h (by decide)) (fun p5 p6 p7 => hK _ _ _ _ _ _ p5 p6 p7 (LJ_i hJ hk.2 j1 j2 j3 j4 j5 _ _ _) (by omega) (by omega))
    · exfalso; omega
    · exfalso; omega
  · intro p J R' x' c' t' j1 j2 j3 j4 j5
    have e1 : J 361 = I 361 := j1 361 (by decide)
    refine af_I (cc := 2) (tt := 12) rfl rfl (by decide) ?_
    try dsimp only
    refine B_L_law_815 ?_
    try dsimp only
    refine ⟨by (refine ⟨?_, ?_⟩ <;> omega), h0, ⟨by omega, by omega⟩, by (refine ⟨?_, ?_⟩ <;> omega), h0, ⟨by omega, by omega⟩, ⟨Nat.zero_le _, Nat.zero_le _, Nat.le_of_ble_eq_true rfl⟩, sh361, ?_⟩
    refine CT_m3 (j1 362 (by decide)) ?_
    refine C_underWay hG j4.m hz.1.2.1.1 hd (hex _) ⟨fun p2 => ?_, fun p2 => ?_, fun p2 => ?_⟩
    · exfalso; omega
    · refine af_I0 rfl rfl (by decide) ?_
      try dsimp only
      exact T_underWay hG (m3_0 _ _ _ _ _) (fun h => absurd h (by decide)) (fun p5 p6 p7 => hK _ _ _ _ _ _ p5 p6 p7 (LJ_i hJ hk.2 j1 j2 j3 j4 j5 _ _ _) (by omega) (by omega))
    · exfalso; omega
  · intro p J R' x' c' t' j1 j2 j3 j4 j5
    have e1 : J 361 = I 361 := j1 361 (by decide)
    refine af_I (cc := 2) (tt := 12) rfl rfl (by decide) ?_
    try dsimp only
    refine B_L_law_815 ?_
    try dsimp only
    refine ⟨by (refine ⟨?_, ?_⟩ <;> omega), h0, ⟨by omega, by omega⟩, by (refine ⟨?_, ?_⟩ <;> omega), h0, ⟨by omega, by omega⟩, ⟨Nat.zero_le _, Nat.zero_le _, Nat.le_of_ble_eq_true rfl⟩, sh361, ?_⟩
    refine CT_m3 (j1 362 (by decide)) ?_
    refine C_underWay hG j4.m hz.1.2.1.1 hd (hex _) ⟨fun p2 => ?_, fun p2 => ?_, fun p2 => ?_⟩
    · exfalso; omega
    · exfalso; omega
    · intro o ho hr
      refine af_I0 rfl rfl (by decide) ?_
      try dsimp only
      exact T_underWay hG (m3_0 _ _ _ _ _) (fun _ => (u2_same _ _ _ _).trans (uw_at ho hr p)) (fun p5 p6 p7 => hK _ _ _ _ _ _ p5 p6 p7 (LJ_i hJ hk.2 j1 j2 j3 j4 j5 _ _ _) (by omega) (by omega))
theorem S_count {G : amG} {Q : amR → amH → Prop} {x0 : Nat} {x4 k : Int} {o5 o6 o7 : Option amV} {I : Nat → Nat → Int} {R : Nat → Nat → Option Nat} {L : Nat → Nat → Int64} {x c t : Nat} (hG : amG0 G) (h0 : x0 = gb G) (hg : gn G ≤ 2048) (h4 : 0 ≤ x4 ∧ x4 + 3 < gn G) (hk : 0 ≤ k ∧ k < 600) (hI : LI k I R) (hc : 3 ≤ c ∧ 18 ≤ t) (hK : ∀ (K : Nat → Nat → Int) (R1 : Nat → Nat → Option Nat) (L1 : Nat → Nat → Int64) (x1 c1 t1 : Nat) (p5 p6 p7 : Option amV), LI (k + 1) K R1 → c ≤ c1 + 3 → t ≤ t1 + 18 → X G mL_law Q 1356 [some (aO x0), some (aR (some 0)), some (aR (some 361)), some (aR (some 369)), some (aI x4), p5, p6, p7, none] [] (K, R1, L1, SH, x1, c1, t1)) : X G mL_law Q 866 [some (aO x0), some (aR (some 0)), some (aR (some 361)), some (aR (some 369)), some (aI x4), o5, o6, o7, none] [] (I, R, L, SH, x, c, t) := by
  obtain ⟨zs, hJ⟩ := hI
  have hR : RK R := hJ.1
  have hC : CS I R (I 362) (I 361 2) zs := hJ.2.1
  have hz : ZK k (I 362) := hJ.2.2.1
  have hZ : ZF (I 362) := hz.f (by omega)
  refine B_L_law_866 ?_
  try dsimp only
  refine ⟨by (refine ⟨?_, ?_⟩ <;> omega), h0, ⟨by omega, by omega⟩, ⟨by omega, by omega, Nat.le_of_ble_eq_true rfl⟩, True.intro, ?_⟩
  refine E_count hG hR hC hZ ?_ ?_
  · intro p J R' x' c' t' j1 j2 j3 j4 j5
    have e1 : J 361 = I 361 := j1 361 (by decide)
    refine af_I (cc := 1) (tt := 6) rfl rfl (by decide) ?_
    try dsimp only
    refine B_L_law_877 ?_
    try dsimp only
    refine ⟨by (refine ⟨?_, ?_⟩ <;> omega), h0, ⟨by omega, by omega⟩, ⟨Nat.zero_le _, Nat.zero_le _, Nat.le_of_ble_eq_true rfl⟩, sh361, ?_⟩
    refine CT_m3 (j1 362 (by decide)) ?_
    refine C_count hG j4.m hz.1.1.2.1 hz.1.1.2.2.1 ⟨fun p2 => ?_, fun p2 => ?_⟩
    · refine af_I0 rfl rfl (by decide) ?_
      try dsimp only
      exact T_count hG (m3_0 _ _ _ _ _) (fun h => absurd h (by decide)) (fun p5 p6 p7 => hK _ _ _ _ _ _ p5 p6 p7 (LJ_i hJ hk.2 j1 j2 j3 j4 j5 _ _ _) (by omega) (by omega))
    · exfalso; omega
  · intro p J R' x' c' t' j1 j2 j3 j4 j5
    have e1 : J 361 = I 361 := j1 361 (by decide)
    refine af_I (cc := 1) (tt := 6) rfl rfl (by decide) ?_
    try dsimp only
    refine B_L_law_877 ?_
    try dsimp only
    refine ⟨by (refine ⟨?_, ?_⟩ <;> omega), h0, ⟨by omega, by omega⟩, ⟨Nat.zero_le _, Nat.zero_le _, Nat.le_of_ble_eq_true rfl⟩, sh361, ?_⟩
    refine CT_m3 (j1 362 (by decide)) ?_
    refine C_count hG j4.m hz.1.1.2.1 hz.1.1.2.2.1 ⟨fun p2 => ?_, fun p2 => ?_⟩
    · exfalso; omega
    · refine af_I0 rfl rfl (by decide) ?_
      try dsimp only
      exact T_count hG (m3_0 _ _ _ _ _) (fun _ => by rw [e1]; exact u2_same _ _ _ _) (fun p5 p6 p7 => hK _ _ _ _ _ _ p5 p6 p7 (LJ_i hJ hk.2 j1 j2 j3 j4 j5 _ _ _) (by omega) (by omega))
theorem S_sees {G : amG} {Q : amR → amH → Prop} {x0 : Nat} {x4 k : Int} {o5 o6 o7 : Option amV} {I : Nat → Nat → Int} {R : Nat → Nat → Option Nat} {L : Nat → Nat → Int64} {x c t : Nat} (hG : amG0 G) (h0 : x0 = gb G) (hg : gn G ≤ 2048) (h4 : 0 ≤ x4 ∧ x4 + 3 < gn G) (hk : 0 ≤ k ∧ k < 600) (hI : LI k I R) (hc : 3 ≤ c ∧ 18 ≤ t) (hK : ∀ (K : Nat → Nat → Int) (R1 : Nat → Nat → Option Nat) (L1 : Nat → Nat → Int64) (x1 c1 t1 : Nat) (p5 p6 p7 : Option amV), LI (k + 1) K R1 → c ≤ c1 + 3 → t ≤ t1 + 18 → X G mL_law Q 1356 [some (aO x0), some (aR (some 0)), some (aR (some 361)), some (aR (some 369)), some (aI x4), p5, p6, p7, none] [] (K, R1, L1, SH, x1, c1, t1)) : X G mL_law Q 922 [some (aO x0), some (aR (some 0)), some (aR (some 361)), some (aR (some 369)), some (aI x4), o5, o6, o7, none] [] (I, R, L, SH, x, c, t) := by
  obtain ⟨zs, hJ⟩ := hI
  have hR : RK R := hJ.1
  have hC : CS I R (I 362) (I 361 2) zs := hJ.2.1
  have hz : ZK k (I 362) := hJ.2.2.1
  have hZ : ZF (I 362) := hz.f (by omega)
  refine B_L_law_922 ?_
  try dsimp only
  refine ⟨by (refine ⟨?_, ?_⟩ <;> omega), h0, ⟨by omega, by omega⟩, by (refine ⟨?_, ?_⟩ <;> omega), h0, ⟨by omega, by omega⟩, ⟨by omega, by omega, Nat.le_of_ble_eq_true rfl⟩, True.intro, ?_⟩
  refine E_sees hG hR hC hZ ?_ ?_
  · intro p J R' x' c' t' j1 j2 j3 j4 j5
    have e1 : J 361 = I 361 := j1 361 (by decide)
    refine af_I (cc := 2) (tt := 12) rfl rfl (by decide) ?_
    try dsimp only
    refine B_L_law_939 ?_
    try dsimp only
    refine ⟨by (refine ⟨?_, ?_⟩ <;> omega), h0, ⟨by omega, by omega⟩, by (refine ⟨?_, ?_⟩ <;> omega), h0, ⟨by omega, by omega⟩, ⟨Nat.zero_le _, Nat.zero_le _, Nat.le_of_ble_eq_true rfl⟩, sh361, ?_⟩
    refine CT_m3 (j1 362 (by decide)) ?_
    refine C_sees hG j4.m hz.1.1.1 ⟨fun p2 => ?_, fun p2 => ?_⟩
    · refine af_I0 rfl rfl (by decide) ?_
      try dsimp only
      exact T_sees hG (m3_0 _ _ _ _ _) (fun h => absurd h (by decide)) (fun p5 p6 p7 => hK _ _ _ _ _ _ p5 p6 p7 (LJ_i hJ hk.2 j1 j2 j3 j4 j5 _ _ _) (by omega) (by omega))
    · exfalso; omega
  · intro p J R' x' c' t' j1 j2 j3 j4 j5
    have e1 : J 361 = I 361 := j1 361 (by decide)
    refine af_I (cc := 2) (tt := 12) rfl rfl (by decide) ?_
    try dsimp only
    refine B_L_law_939 ?_
    try dsimp only
    refine ⟨by (refine ⟨?_, ?_⟩ <;> omega), h0, ⟨by omega, by omega⟩, by (refine ⟨?_, ?_⟩ <;> omega), h0, ⟨by omega, by omega⟩, ⟨Nat.zero_le _, Nat.zero_le _, Nat.le_of_ble_eq_true rfl⟩, sh361, ?_⟩
    refine CT_m3 (j1 362 (by decide)) ?_
    refine C_sees hG j4.m hz.1.1.1 ⟨fun p2 => ?_, fun p2 => ?_⟩
    · exfalso; omega
    · refine af_I0 rfl rfl (by decide) ?_
      try dsimp only
      exact T_sees hG (m3_0 _ _ _ _ _) (fun _ => u2_same _ _ _ _) (fun p5 p6 p7 => hK _ _ _ _ _ _ p5 p6 p7 (LJ_i hJ hk.2 j1 j2 j3 j4 j5 _ _ _) (by omega) (by omega))
theorem S_distance {G : amG} {Q : amR → amH → Prop} {x0 : Nat} {x4 k : Int} {o5 o6 o7 : Option amV} {I : Nat → Nat → Int} {R : Nat → Nat → Option Nat} {L : Nat → Nat → Int64} {x c t : Nat} (hG : amG0 G) (h0 : x0 = gb G) (hg : gn G ≤ 2048) (h4 : 0 ≤ x4 ∧ x4 + 3 < gn G) (hk : 0 ≤ k ∧ k < 600) (hI : LI k I R) (hc : 3 ≤ c ∧ 18 ≤ t) (hK : ∀ (K : Nat → Nat → Int) (R1 : Nat → Nat → Option Nat) (L1 : Nat → Nat → Int64) (x1 c1 t1 : Nat) (p5 p6 p7 : Option amV), LI (k + 1) K R1 → c ≤ c1 + 3 → t ≤ t1 + 18 → X G mL_law Q 1356 [some (aO x0), some (aR (some 0)), some (aR (some 361)), some (aR (some 369)), some (aI x4), p5, p6, p7, none] [] (K, R1, L1, SH, x1, c1, t1)) : X G mL_law Q 997 [some (aO x0), some (aR (some 0)), some (aR (some 361)), some (aR (some 369)), some (aI x4), o5, o6, o7, none] [] (I, R, L, SH, x, c, t) := by
  obtain ⟨zs, hJ⟩ := hI
  have hR : RK R := hJ.1
  have hC : CS I R (I 362) (I 361 2) zs := hJ.2.1
  have hz : ZK k (I 362) := hJ.2.2.1
  have hZ : ZF (I 362) := hz.f (by omega)
  refine B_L_law_997 ?_
  try dsimp only
  refine ⟨by (refine ⟨?_, ?_⟩ <;> omega), h0, ⟨by omega, by omega⟩, by (refine ⟨?_, ?_⟩ <;> omega), h0, ⟨by omega, by omega⟩, ⟨by omega, by omega, Nat.le_of_ble_eq_true rfl⟩, True.intro, ?_⟩
  refine E_distance hG hR hC hZ ?_ ?_
  · intro p J R' x' c' t' j1 j2 j3 j4 j5
    have e1 : J 361 = I 361 := j1 361 (by decide)
    refine af_I (cc := 2) (tt := 12) rfl rfl (by decide) ?_
    try dsimp only
    refine B_L_law_1014 ?_
    try dsimp only
    refine ⟨by (refine ⟨?_, ?_⟩ <;> omega), h0, ⟨by omega, by omega⟩, by (refine ⟨?_, ?_⟩ <;> omega), h0, ⟨by omega, by omega⟩, ⟨Nat.zero_le _, Nat.zero_le _, Nat.le_of_ble_eq_true rfl⟩, sh361, ?_⟩
    refine CT_m3 (j1 362 (by decide)) ?_
    refine C_distance hG j4.m hz.1.1.1 hz.1.1.2.1 ⟨fun p2 => ?_, fun p2 => ?_⟩
    · refine af_I0 rfl rfl (by decide) ?_
      try dsimp only
      exact T_distance hG (m3_0 _ _ _ _ _) (fun h => absurd h (by decide)) (fun p5 p6 p7 => hK _ _ _ _ _ _ p5 p6 p7 (LJ_i hJ hk.2 j1 j2 j3 j4 j5 _ _ _) (by omega) (by omega))
    · exfalso; omega
  · intro p J R' x' c' t' j1 j2 j3 j4 j5
    have e1 : J 361 = I 361 := j1 361 (by decide)
    refine af_I (cc := 2) (tt := 12) rfl rfl (by decide) ?_
    try dsimp only
    refine B_L_law_1014 ?_
    try dsimp only
    refine ⟨by (refine ⟨?_, ?_⟩ <;> omega), h0, ⟨by omega, by omega⟩, by (refine ⟨?_, ?_⟩ <;> omega), h0, ⟨by omega, by omega⟩, ⟨Nat.zero_le _, Nat.zero_le _, Nat.le_of_ble_eq_true rfl⟩, sh361, ?_⟩
    refine CT_m3 (j1 362 (by decide)) ?_
    refine C_distance hG j4.m hz.1.1.1 hz.1.1.2.1 ⟨fun p2 => ?_, fun p2 => ?_⟩
    · exfalso; omega
    · intro f2 q2
      refine af_I0 rfl rfl (by decide) ?_
      try dsimp only
      exact T_distance hG (m3_0 _ _ _ _ _) (fun _ => u2_same _ _ _ _) (fun p5 p6 p7 => hK _ _ _ _ _ _ p5 p6 p7 (LJ_i hJ hk.2 j1 j2 j3 j4 j5 _ _ _) (by omega) (by omega))
theorem S_why {G : amG} {Q : amR → amH → Prop} {x0 : Nat} {x4 k : Int} {o5 o6 o7 : Option amV} {I : Nat → Nat → Int} {R : Nat → Nat → Option Nat} {L : Nat → Nat → Int64} {x c t : Nat} (hG : amG0 G) (h0 : x0 = gb G) (hg : gn G ≤ 2048) (h4 : 0 ≤ x4 ∧ x4 + 3 < gn G) (hk : 0 ≤ k ∧ k < 600) (hI : LI k I R) (hc : 3 ≤ c ∧ 18 ≤ t) (hK : ∀ (K : Nat → Nat → Int) (R1 : Nat → Nat → Option Nat) (L1 : Nat → Nat → Int64) (x1 c1 t1 : Nat) (p5 p6 p7 : Option amV), LI (k + 1) K R1 → c ≤ c1 + 3 → t ≤ t1 + 18 → X G mL_law Q 1356 [some (aO x0), some (aR (some 0)), some (aR (some 361)), some (aR (some 369)), some (aI x4), p5, p6, p7, none] [] (K, R1, L1, SH, x1, c1, t1)) : X G mL_law Q 1065 [some (aO x0), some (aR (some 0)), some (aR (some 361)), some (aR (some 369)), some (aI x4), o5, o6, o7, none] [] (I, R, L, SH, x, c, t) := by
  obtain ⟨zs, hJ⟩ := hI
  have hR : RK R := hJ.1
  have hC : CS I R (I 362) (I 361 2) zs := hJ.2.1
  have hz : ZK k (I 362) := hJ.2.2.1
  have hZ : ZF (I 362) := hz.f (by omega)
  refine B_L_law_1065 ?_
  try dsimp only
  refine ⟨by (refine ⟨?_, ?_⟩ <;> omega), h0, ⟨by omega, by omega⟩, ⟨by omega, by omega, Nat.le_of_ble_eq_true rfl⟩, True.intro, ?_⟩
  refine E_why hG hR hC hZ ?_ ?_
  · intro p J R' x' c' t' j1 j2 j3 j4 j5
    have e1 : J 361 = I 361 := j1 361 (by decide)
    refine af_I (cc := 1) (tt := 6) rfl rfl (by decide) ?_
    try dsimp only
    refine B_L_law_1076 ?_
    try dsimp only
    refine ⟨by (refine ⟨?_, ?_⟩ <;> omega), h0, ⟨by omega, by omega⟩, ⟨Nat.zero_le _, Nat.zero_le _, Nat.le_of_ble_eq_true rfl⟩, sh361, ?_⟩
    refine CT_m3 (j1 362 (by decide)) ?_
    refine C_why hG j4.m hz.1.1.1 hz.1.1.2.1 hz.1.1.2.2.1 hz.1.1.2.2.2.2.1 ⟨fun p2 => ?_, fun p2 => ?_⟩
    · refine af_I0 rfl rfl (by decide) ?_
      try dsimp only
      exact T_why hG (m3_0 _ _ _ _ _) (fun h => absurd h (by decide)) (fun p5 p6 p7 => hK _ _ _ _ _ _ p5 p6 p7 (LJ_i hJ hk.2 j1 j2 j3 j4 j5 _ _ _) (by omega) (by omega))
    · exfalso; omega
  · intro p J R' x' c' t' j1 j2 j3 j4 j5
    have e1 : J 361 = I 361 := j1 361 (by decide)
    refine af_I (cc := 1) (tt := 6) rfl rfl (by decide) ?_
    try dsimp only
    refine B_L_law_1076 ?_
    try dsimp only
    refine ⟨by (refine ⟨?_, ?_⟩ <;> omega), h0, ⟨by omega, by omega⟩, ⟨Nat.zero_le _, Nat.zero_le _, Nat.le_of_ble_eq_true rfl⟩, sh361, ?_⟩
    refine CT_m3 (j1 362 (by decide)) ?_
    refine C_why hG j4.m hz.1.1.1 hz.1.1.2.1 hz.1.1.2.2.1 hz.1.1.2.2.2.2.1 ⟨fun p2 => ?_, fun p2 => ?_⟩
    · exfalso; omega
    · intro f2 q2
      refine af_I0 rfl rfl (by decide) ?_
      try dsimp only
      exact T_why hG (m3_0 _ _ _ _ _) (fun _ => u2_same _ _ _ _) (fun p5 p6 p7 => hK _ _ _ _ _ _ p5 p6 p7 (LJ_i hJ hk.2 j1 j2 j3 j4 j5 _ _ _) (by omega) (by omega))
theorem S_bestPost {G : amG} {Q : amR → amH → Prop} {x0 : Nat} {x4 k : Int} {o5 o6 o7 : Option amV} {I : Nat → Nat → Int} {R : Nat → Nat → Option Nat} {L : Nat → Nat → Int64} {x c t : Nat} (hG : amG0 G) (h0 : x0 = gb G) (hg : gn G ≤ 2048) (h4 : 0 ≤ x4 ∧ x4 + 3 < gn G) (hk : 0 ≤ k ∧ k < 600) (hI : LI k I R) (hc : 3 ≤ c ∧ 18 ≤ t) (hK : ∀ (K : Nat → Nat → Int) (R1 : Nat → Nat → Option Nat) (L1 : Nat → Nat → Int64) (x1 c1 t1 : Nat) (p5 p6 p7 : Option amV), LI (k + 1) K R1 → c ≤ c1 + 3 → t ≤ t1 + 18 → X G mL_law Q 1356 [some (aO x0), some (aR (some 0)), some (aR (some 361)), some (aR (some 369)), some (aI x4), p5, p6, p7, none] [] (K, R1, L1, SH, x1, c1, t1)) : X G mL_law Q 1121 [some (aO x0), some (aR (some 0)), some (aR (some 361)), some (aR (some 369)), some (aI x4), o5, o6, o7, none] [] (I, R, L, SH, x, c, t) := by
  obtain ⟨zs, hJ⟩ := hI
  have hR : RK R := hJ.1
  have hC : CS I R (I 362) (I 361 2) zs := hJ.2.1
  have hz : ZK k (I 362) := hJ.2.2.1
  have hZ : ZF (I 362) := hz.f (by omega)
  refine B_L_law_1121 ?_
  try dsimp only
  refine ⟨by (refine ⟨?_, ?_⟩ <;> omega), h0, ⟨by omega, by omega⟩, ⟨by omega, by omega, Nat.le_of_ble_eq_true rfl⟩, True.intro, ?_⟩
  refine E_bestPost hG hR hC hZ ?_ ?_
  · intro p J R' x' c' t' j1 j2 j3 j4 j5
    have e1 : J 361 = I 361 := j1 361 (by decide)
    refine af_I (cc := 1) (tt := 6) rfl rfl (by decide) ?_
    try dsimp only
    refine B_L_law_1132 ?_
    try dsimp only
    refine ⟨by (refine ⟨?_, ?_⟩ <;> omega), h0, ⟨by omega, by omega⟩, ⟨Nat.zero_le _, Nat.zero_le _, Nat.le_of_ble_eq_true rfl⟩, sh361, ?_⟩
    refine CT_m3 (j1 362 (by decide)) ?_
    refine C_bestPost hG j4.m hz.1.1.1 hz.1.1.2.1 hz.1.1.2.2.1 ⟨fun p2 => ?_, fun p2 => ?_⟩
    · refine af_I0 rfl rfl (by decide) ?_
      try dsimp only
      exact T_bestPost hG (m3_0 _ _ _ _ _) (fun h => absurd h (by decide)) (fun p5 p6 p7 => hK _ _ _ _ _ _ p5 p6 p7 (LJ_i hJ hk.2 j1 j2 j3 j4 j5 _ _ _) (by omega) (by omega))
    · exfalso; omega
  · intro p J R' x' c' t' j1 j2 j3 j4 j5
    have e1 : J 361 = I 361 := j1 361 (by decide)
    refine af_I (cc := 1) (tt := 6) rfl rfl (by decide) ?_
    try dsimp only
    refine B_L_law_1132 ?_
    try dsimp only
    refine ⟨by (refine ⟨?_, ?_⟩ <;> omega), h0, ⟨by omega, by omega⟩, ⟨Nat.zero_le _, Nat.zero_le _, Nat.le_of_ble_eq_true rfl⟩, sh361, ?_⟩
    refine CT_m3 (j1 362 (by decide)) ?_
    refine C_bestPost hG j4.m hz.1.1.1 hz.1.1.2.1 hz.1.1.2.2.1 ⟨fun p2 => ?_, fun p2 => ?_⟩
    · exfalso; omega
    · intro f2 q2
      refine af_I0 rfl rfl (by decide) ?_
      try dsimp only
      exact T_bestPost hG (m3_0 _ _ _ _ _) (fun _ => u2_same _ _ _ _) (fun p5 p6 p7 => hK _ _ _ _ _ _ p5 p6 p7 (LJ_i hJ hk.2 j1 j2 j3 j4 j5 _ _ _) (by omega) (by omega))
theorem S_ifPassed {G : amG} {Q : amR → amH → Prop} {x0 : Nat} {x4 k : Int} {o5 o6 o7 : Option amV} {I : Nat → Nat → Int} {R : Nat → Nat → Option Nat} {L : Nat → Nat → Int64} {x c t : Nat} (hG : amG0 G) (h0 : x0 = gb G) (hg : gn G ≤ 2048) (h4 : 0 ≤ x4 ∧ x4 + 3 < gn G) (hk : 0 ≤ k ∧ k < 600) (hI : LI k I R) (hc : 3 ≤ c ∧ 18 ≤ t) (hK : ∀ (K : Nat → Nat → Int) (R1 : Nat → Nat → Option Nat) (L1 : Nat → Nat → Int64) (x1 c1 t1 : Nat) (p5 p6 p7 : Option amV), LI (k + 1) K R1 → c ≤ c1 + 3 → t ≤ t1 + 18 → X G mL_law Q 1356 [some (aO x0), some (aR (some 0)), some (aR (some 361)), some (aR (some 369)), some (aI x4), p5, p6, p7, none] [] (K, R1, L1, SH, x1, c1, t1)) : X G mL_law Q 1177 [some (aO x0), some (aR (some 0)), some (aR (some 361)), some (aR (some 369)), some (aI x4), o5, o6, o7, none] [] (I, R, L, SH, x, c, t) := by
  obtain ⟨zs, hJ⟩ := hI
  have hR : RK R := hJ.1
  have hC : CS I R (I 362) (I 361 2) zs := hJ.2.1
  have hz : ZK k (I 362) := hJ.2.2.1
  have hZ : ZF (I 362) := hz.f (by omega)
  refine B_L_law_1177 ?_
  try dsimp only
  refine ⟨by (refine ⟨?_, ?_⟩ <;> omega), h0, ⟨by omega, by omega⟩, by (refine ⟨?_, ?_⟩ <;> omega), h0, ⟨by omega, by omega⟩, ⟨by omega, by omega, Nat.le_of_ble_eq_true rfl⟩, True.intro, ?_⟩
  refine E_ifPassed hG hR hC hZ ?_ ?_
  · intro p J R' x' c' t' j1 j2 j3 j4 j5
    have e1 : J 361 = I 361 := j1 361 (by decide)
    refine af_I (cc := 2) (tt := 12) rfl rfl (by decide) ?_
    try dsimp only
    refine B_L_law_1194 ?_
    try dsimp only
    refine ⟨by (refine ⟨?_, ?_⟩ <;> omega), h0, ⟨by omega, by omega⟩, by (refine ⟨?_, ?_⟩ <;> omega), h0, ⟨by omega, by omega⟩, ⟨Nat.zero_le _, Nat.zero_le _, Nat.le_of_ble_eq_true rfl⟩, sh361, ?_⟩
    refine CT_m3 (j1 362 (by decide)) ?_
    refine C_ifPassed hG j4.m hz.1 hz.2.1 ⟨fun p2 => ?_, fun p2 => ?_⟩
    · refine af_I0 rfl rfl (by decide) ?_
      try dsimp only
      exact T_ifPassed hG (m3_0 _ _ _ _ _) (fun h => absurd h (by decide)) (fun p5 p6 p7 => hK _ _ _ _ _ _ p5 p6 p7 (LJ_i hJ hk.2 j1 j2 j3 j4 j5 _ _ _) (by omega) (by omega))
    · exfalso; omega
  · intro p J R' x' c' t' j1 j2 j3 j4 j5
    have e1 : J 361 = I 361 := j1 361 (by decide)
    refine af_I (cc := 2) (tt := 12) rfl rfl (by decide) ?_
    try dsimp only
    refine B_L_law_1194 ?_
    try dsimp only
    refine ⟨by (refine ⟨?_, ?_⟩ <;> omega), h0, ⟨by omega, by omega⟩, by (refine ⟨?_, ?_⟩ <;> omega), h0, ⟨by omega, by omega⟩, ⟨Nat.zero_le _, Nat.zero_le _, Nat.le_of_ble_eq_true rfl⟩, sh361, ?_⟩
    refine CT_m3 (j1 362 (by decide)) ?_
    refine C_ifPassed hG j4.m hz.1 hz.2.1 ⟨fun p2 => ?_, fun p2 => ?_⟩
    · exfalso; omega
    · intro a2 f2 q2
      refine af_I0 rfl rfl (by decide) ?_
      try dsimp only
      exact T_ifPassed hG (m3_0a _ _ _ _ _ _) (fun _ => u2_same _ _ _ _) (fun p5 p6 p7 => hK _ _ _ _ _ _ p5 p6 p7 (LJ_a hJ hk.2 j1 j2 j3 j4 j5 _ _ _ _) (by omega) (by omega))
theorem S_arrivesIn {G : amG} {Q : amR → amH → Prop} {x0 : Nat} {x4 k : Int} {o5 o6 o7 : Option amV} {I : Nat → Nat → Int} {R : Nat → Nat → Option Nat} {L : Nat → Nat → Int64} {x c t : Nat} (hG : amG0 G) (h0 : x0 = gb G) (hg : gn G ≤ 2048) (h4 : 0 ≤ x4 ∧ x4 + 3 < gn G) (hk : 0 ≤ k ∧ k < 600) (hI : LI k I R) (hc : 3 ≤ c ∧ 18 ≤ t) (hK : ∀ (K : Nat → Nat → Int) (R1 : Nat → Nat → Option Nat) (L1 : Nat → Nat → Int64) (x1 c1 t1 : Nat) (p5 p6 p7 : Option amV), LI (k + 1) K R1 → c ≤ c1 + 3 → t ≤ t1 + 18 → X G mL_law Q 1356 [some (aO x0), some (aR (some 0)), some (aR (some 361)), some (aR (some 369)), some (aI x4), p5, p6, p7, none] [] (K, R1, L1, SH, x1, c1, t1)) : X G mL_law Q 1245 [some (aO x0), some (aR (some 0)), some (aR (some 361)), some (aR (some 369)), some (aI x4), o5, o6, o7, none] [] (I, R, L, SH, x, c, t) := by
  obtain ⟨zs, hJ⟩ := hI
  have hR : RK R := hJ.1
  have hC : CS I R (I 362) (I 361 2) zs := hJ.2.1
  have hz : ZK k (I 362) := hJ.2.2.1
  have hZ : ZF (I 362) := hz.f (by omega)
  refine B_L_law_1245 ?_
  try dsimp only
  refine ⟨by (refine ⟨?_, ?_⟩ <;> omega), h0, ⟨by omega, by omega⟩, ⟨by omega, by omega, Nat.le_of_ble_eq_true rfl⟩, True.intro, ?_⟩
  refine E_arrivesIn hG hR hC hZ ?_ ?_
  · intro p J R' x' c' t' j1 j2 j3 j4 j5
    have e1 : J 361 = I 361 := j1 361 (by decide)
    refine af_I (cc := 1) (tt := 6) rfl rfl (by decide) ?_
    try dsimp only
    refine B_L_law_1256 ?_
    try dsimp only
    refine ⟨by (refine ⟨?_, ?_⟩ <;> omega), h0, ⟨by omega, by omega⟩, ⟨Nat.zero_le _, Nat.zero_le _, Nat.le_of_ble_eq_true rfl⟩, sh361, ?_⟩
    refine CT_m3 (j1 362 (by decide)) ?_
    refine C_arrivesIn hG j4.m hz.1 hz.2.1 ⟨fun p2 => ?_, fun p2 => ?_⟩
    · refine af_I0 rfl rfl (by decide) ?_
      try dsimp only
      exact T_arrivesIn hG (m3_0 _ _ _ _ _) (fun h => absurd h (by decide)) (fun p5 p6 p7 => hK _ _ _ _ _ _ p5 p6 p7 (LJ_i hJ hk.2 j1 j2 j3 j4 j5 _ _ _) (by omega) (by omega))
    · exfalso; omega
  · intro p J R' x' c' t' j1 j2 j3 j4 j5
    have e1 : J 361 = I 361 := j1 361 (by decide)
    refine af_I (cc := 1) (tt := 6) rfl rfl (by decide) ?_
    try dsimp only
    refine B_L_law_1256 ?_
    try dsimp only
    refine ⟨by (refine ⟨?_, ?_⟩ <;> omega), h0, ⟨by omega, by omega⟩, ⟨Nat.zero_le _, Nat.zero_le _, Nat.le_of_ble_eq_true rfl⟩, sh361, ?_⟩
    refine CT_m3 (j1 362 (by decide)) ?_
    refine C_arrivesIn hG j4.m hz.1 hz.2.1 ⟨fun p2 => ?_, fun p2 => ?_⟩
    · exfalso; omega
    · intro a2 f2 q2
      refine af_I0 rfl rfl (by decide) ?_
      try dsimp only
      exact T_arrivesIn hG (m3_0a _ _ _ _ _ _) (fun _ => u2_same _ _ _ _) (fun p5 p6 p7 => hK _ _ _ _ _ _ p5 p6 p7 (LJ_a hJ hk.2 j1 j2 j3 j4 j5 _ _ _ _) (by omega) (by omega))
