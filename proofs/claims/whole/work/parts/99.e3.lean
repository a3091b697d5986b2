theorem zR9 : Zz r9 none 358 := Zz_u2 (Zz_u2 (Zz_u2 (Zz_u2 (Zz_u2 (Zz_u2 (Zz_le zRe (by decide)) (by decide) _ _) (by decide) _ _) (by decide) _ _) (by decide) _ _) (by decide) _ _) (by decide) _ _
theorem LI_up {k : Int} {I : Nat → Nat → Int} {R : Nat → Nat → Option Nat} (h : LI k I R) : LI (k + 1) I R := by
  obtain ⟨zs, h1, h2, h3, h4, h5⟩ := h
  exact ⟨zs, h1, h2, ZK_up h3 (by omega), fun i hi => ⟨ZK_up (h4 i hi).1 (by omega), (h4 i hi).2⟩, h5⟩
/-! ===== the law ===== -/
theorem L_law {G : amG} {Q : amR → amH → Prop} {x0 : Nat} (hG : amG0 G) (h0 : x0 = gb G) (hQ : ∀ h : amH, Q (Sum.inl (some (aI 1))) h) :
    ∀ (n : Nat) (x4 k : Int) (o5 o6 o7 : Option amV) (I : Nat → Nat → Int) (R : Nat → Nat → Option Nat) (L : Nat → Nat → Int64) (x c t : Nat), 0 ≤ k → x4 = 4 * k → (gn G : Int) + 8 - x4 < n → x4 ≤ gn G + 3 → LI k I R → 3 * (600 - k) ≤ c → 18 * (600 - k) ≤ t → X G mL_law Q 23 [some (aO x0), some (aR (some 0)), some (aR (some 361)), some (aR (some 369)), some (aI x4), o5, o6, o7, none] [] (I, R, L, SH, x, c, t) := by
  have hg : gn G ≤ 2048 := hG.2.2.2.2.2.1
  intro n
  induction n with
  | zero => intros; exfalso; omega
  | succ n ih =>
    intro x4 k o5 o6 o7 I R L x c t hk he hn hb hI hc ht
    have hK : ∀ (K : Nat → Nat → Int) (R1 : Nat → Nat → Option Nat) (L1 : Nat → Nat → Int64) (x1 c1 t1 : Nat) (p5 p6 p7 : Option amV), x4 + 3 < gn G → LI (k + 1) K R1 → c ≤ c1 + 3 → t ≤ t1 + 18 → X G mL_law Q 1356 [some (aO x0), some (aR (some 0)), some (aR (some 361)), some (aR (some 369)), some (aI x4), p5, p6, p7, none] [] (K, R1, L1, SH, x1, c1, t1) := by
      intro K R1 L1 x1 c1 t1 p5 p6 p7 a1 a2 a3 a4
      refine B_L_law_1356 ⟨by (refine ⟨?_, ?_⟩ <;> omega), ?_⟩
      exact ih (x4 + 4) (k + 1) p5 p6 p7 K R1 L1 x1 c1 t1 (by omega) (by omega) (by omega) (by omega) a2 (by omega) (by omega)
    refine B_L_law_23 ?_
    try dsimp only
    refine ⟨h0, by (refine ⟨?_, ?_⟩ <;> omega), fun _ => B_L_law_1362 ⟨Or.inr rfl, hQ _⟩, fun q => ⟨h0, ⟨by omega, by omega⟩, fun _ => ?_, fun _ => ?_, fun _ => ?_, fun _ => ?_, fun _ => ?_, fun _ => ?_, fun _ => ?_, fun _ => ?_, fun _ => ?_, fun _ => ?_, fun _ => ?_, fun _ => ?_, fun _ => ?_, fun _ => ?_, fun _ => ?_, fun _ => ?_, fun _ => ?_, fun _ => ?_, fun _ => ?_, fun _ => ?_, fun _ => ?_, fun _ => ?_, fun _ => ?_, trivial⟩⟩
    · exact hK _ _ _ _ _ _ _ _ _ (by omega) (LI_up hI) (by omega) (by omega)
    · exact S_shape hG h0 hg ⟨by omega, by omega⟩ ⟨hk, by omega⟩ hI ⟨by omega, by omega⟩ (fun K R1 L1 x1 c1 t1 p5 p6 p7 a2 a3 a4 => hK K R1 L1 x1 c1 t1 p5 p6 p7 (by omega) a2 a3 a4)
    · exact S_moveGeneral hG h0 hg ⟨by omega, by omega⟩ ⟨hk, by omega⟩ hI ⟨by omega, by omega⟩ (fun K R1 L1 x1 c1 t1 p5 p6 p7 a2 a3 a4 => hK K R1 L1 x1 c1 t1 p5 p6 p7 (by omega) a2 a3 a4)
    · exact S_addTroop hG h0 hg ⟨by omega, by omega⟩ ⟨hk, by omega⟩ hI ⟨by omega, by omega⟩ (fun K R1 L1 x1 c1 t1 p5 p6 p7 a2 a3 a4 => hK K R1 L1 x1 c1 t1 p5 p6 p7 (by omega) a2 a3 a4)
    · exact S_order hG h0 hg ⟨by omega, by omega⟩ ⟨hk, by omega⟩ hI ⟨by omega, by omega⟩ (fun K R1 L1 x1 c1 t1 p5 p6 p7 a2 a3 a4 => hK K R1 L1 x1 c1 t1 p5 p6 p7 (by omega) a2 a3 a4)
    · exact S_pass hG h0 hg ⟨by omega, by omega⟩ ⟨hk, by omega⟩ hI ⟨by omega, by omega⟩ (fun K R1 L1 x1 c1 t1 p5 p6 p7 a2 a3 a4 => hK K R1 L1 x1 c1 t1 p5 p6 p7 (by omega) a2 a3 a4)
    · exact S_append hG h0 hg ⟨by omega, by omega⟩ ⟨hk, by omega⟩ hI ⟨by omega, by omega⟩ (fun K R1 L1 x1 c1 t1 p5 p6 p7 a2 a3 a4 => hK K R1 L1 x1 c1 t1 p5 p6 p7 (by omega) a2 a3 a4)
    · exact S_clearBuffer hG h0 hg ⟨by omega, by omega⟩ ⟨hk, by omega⟩ hI ⟨by omega, by omega⟩ (fun K R1 L1 x1 c1 t1 p5 p6 p7 a2 a3 a4 => hK K R1 L1 x1 c1 t1 p5 p6 p7 (by omega) a2 a3 a4)
    · exact S_firstError hG h0 hg ⟨by omega, by omega⟩ ⟨hk, by omega⟩ hI ⟨by omega, by omega⟩ (fun K R1 L1 x1 c1 t1 p5 p6 p7 a2 a3 a4 => hK K R1 L1 x1 c1 t1 p5 p6 p7 (by omega) a2 a3 a4)
    · exact S_load hG h0 hg ⟨by omega, by omega⟩ ⟨hk, by omega⟩ hI ⟨by omega, by omega⟩ (fun K R1 L1 x1 c1 t1 p5 p6 p7 a2 a3 a4 => hK K R1 L1 x1 c1 t1 p5 p6 p7 (by omega) a2 a3 a4)
    · exact S_undo hG h0 hg ⟨by omega, by omega⟩ ⟨hk, by omega⟩ hI ⟨by omega, by omega⟩ (fun K R1 L1 x1 c1 t1 p5 p6 p7 a2 a3 a4 => hK K R1 L1 x1 c1 t1 p5 p6 p7 (by omega) a2 a3 a4)
    · exact S_cell hG h0 hg ⟨by omega, by omega⟩ ⟨hk, by omega⟩ hI ⟨by omega, by omega⟩ (fun K R1 L1 x1 c1 t1 p5 p6 p7 a2 a3 a4 => hK K R1 L1 x1 c1 t1 p5 p6 p7 (by omega) a2 a3 a4)
    · exact S_troop hG h0 hg ⟨by omega, by omega⟩ ⟨hk, by omega⟩ hI ⟨by omega, by omega⟩ (fun K R1 L1 x1 c1 t1 p5 p6 p7 a2 a3 a4 => hK K R1 L1 x1 c1 t1 p5 p6 p7 (by omega) a2 a3 a4)
    · exact S_underWay hG h0 hg ⟨by omega, by omega⟩ ⟨hk, by omega⟩ hI ⟨by omega, by omega⟩ (fun K R1 L1 x1 c1 t1 p5 p6 p7 a2 a3 a4 => hK K R1 L1 x1 c1 t1 p5 p6 p7 (by omega) a2 a3 a4)
    · exact S_count hG h0 hg ⟨by omega, by omega⟩ ⟨hk, by omega⟩ hI ⟨by omega, by omega⟩ (fun K R1 L1 x1 c1 t1 p5 p6 p7 a2 a3 a4 => hK K R1 L1 x1 c1 t1 p5 p6 p7 (by omega) a2 a3 a4)
    · exact S_sees hG h0 hg ⟨by omega, by omega⟩ ⟨hk, by omega⟩ hI ⟨by omega, by omega⟩ (fun K R1 L1 x1 c1 t1 p5 p6 p7 a2 a3 a4 => hK K R1 L1 x1 c1 t1 p5 p6 p7 (by omega) a2 a3 a4)
    · exact S_distance hG h0 hg ⟨by omega, by omega⟩ ⟨hk, by omega⟩ hI ⟨by omega, by omega⟩ (fun K R1 L1 x1 c1 t1 p5 p6 p7 a2 a3 a4 => hK K R1 L1 x1 c1 t1 p5 p6 p7 (by omega) a2 a3 a4)
    · exact S_why hG h0 hg ⟨by omega, by omega⟩ ⟨hk, by omega⟩ hI ⟨by omega, by omega⟩ (fun K R1 L1 x1 c1 t1 p5 p6 p7 a2 a3 a4 => hK K R1 L1 x1 c1 t1 p5 p6 p7 (by omega) a2 a3 a4)
    · exact S_bestPost hG h0 hg ⟨by omega, by omega⟩ ⟨hk, by omega⟩ hI ⟨by omega, by omega⟩ (fun K R1 L1 x1 c1 t1 p5 p6 p7 a2 a3 a4 => hK K R1 L1 x1 c1 t1 p5 p6 p7 (by omega) a2 a3 a4)
    · exact S_ifPassed hG h0 hg ⟨by omega, by omega⟩ ⟨hk, by omega⟩ hI ⟨by omega, by omega⟩ (fun K R1 L1 x1 c1 t1 p5 p6 p7 a2 a3 a4 => hK K R1 L1 x1 c1 t1 p5 p6 p7 (by omega) a2 a3 a4)
    · exact S_arrivesIn hG h0 hg ⟨by omega, by omega⟩ ⟨hk, by omega⟩ hI ⟨by omega, by omega⟩ (fun K R1 L1 x1 c1 t1 p5 p6 p7 a2 a3 a4 => hK K R1 L1 x1 c1 t1 p5 p6 p7 (by omega) a2 a3 a4)
    · exact S_strengthLeft hG h0 hg ⟨by omega, by omega⟩ ⟨hk, by omega⟩ hI ⟨by omega, by omega⟩ (fun K R1 L1 x1 c1 t1 p5 p6 p7 a2 a3 a4 => hK K R1 L1 x1 c1 t1 p5 p6 p7 (by omega) a2 a3 a4)
    · exact S_digest hG h0 hg ⟨by omega, by omega⟩ ⟨hk, by omega⟩ hI ⟨by omega, by omega⟩ (fun K R1 L1 x1 c1 t1 p5 p6 p7 a2 a3 a4 => hK K R1 L1 x1 c1 t1 p5 p6 p7 (by omega) a2 a3 a4)
theorem X_law {G : amG} {Q : amR → amH → Prop} (hG : amG0 G) (hQ : ∀ h : amH, Q (Sum.inl (some (aI 1))) h) : X G mL_law Q 0 [some (aO (gb G)), none, none, none, none, none, none, none, none] [] (fun _ _ => 0, fun _ _ => none, fun _ _ => 0, [], 0, 601024, 7293034) := by
  have zI0 : Zz (fun _ _ => (0 : Int)) 0 0 := fun _ _ _ => rfl
  have zR0 : Zz (fun _ _ => (none : Option Nat)) none 0 := fun _ _ _ => rfl
  have zL0 : ∀ k : Nat, Zz (fun _ _ => (0 : Int64)) 0 k := fun _ _ _ _ => rfl
  have g0 : s9.length = 361 := s9_len
  have g1 : (s9 ++ [(10, 0)]).length = 362 := by rw [List.length_append, g0]; rfl
  have zI1 : Zz i9c 0 361 := Zz_le zIc (by decide)
  have zR1 : Zz r9 none 358 := zR9
  have zW : Zz iW 0 369 := Zz_u2 (Zz_le zIc (by decide)) (by decide) _ _
  have zV : Zz rW none 369 := Zz_u2 (Zz_u2 (Zz_u2 (Zz_u2 (Zz_u2 (Zz_u2 (Zz_u2 (Zz_le zR1 (by decide)) (by decide) _ _) (by decide) _ _) (by decide) _ _) (by decide) _ _) (by decide) _ _) (by decide) _ _) (by decide) _ _
  have h15 : X G mL_law Q 15 [some (aO (gb G)), some (aR (some 0)), none, none, none, none, none, none, none] [aR (some 361)] (iW, rW, fun _ _ => 0, s9 ++ [(10, 0)] ++ [(20, 321)] ++ [(20, 1605)] ++ [(20, 60)] ++ [(20, 96)] ++ [(20, 96)] ++ [(20, 321)] ++ [(20, 45)], 0, 600655, 7287115) := by
    have g2 : (s9 ++ [(10, 0)] ++ [(20, 321)] ++ [(20, 1605)] ++ [(20, 60)] ++ [(20, 96)] ++ [(20, 96)] ++ [(20, 321)] ++ [(20, 45)]).length = 369 := by
      simp only [List.length_append, g0, List.length_cons, List.length_nil]
    refine B_L_law_15 ?_
    dsimp only
    rw [g2, Zz_u1 (a := 369) zW (by decide), Zz_u1 (a := 369) zV (by decide), Zz_u1 (a := 369) (zL0 0) (by decide), sW_SH]
    exact ⟨⟨by decide, by decide, by decide, by decide, rfl⟩, L_law hG rfl hQ (gn G + 9) 0 0 _ _ _ _ _ _ _ _ _ (by decide) (by decide) (by omega) (by omega) iW_LI (by decide) (by decide)⟩
  have h7 : X G mL_law Q 7 [some (aO (gb G)), none, none, none, none, none, none, none, none] [aR (some 0)] (i9c, r9, fun _ _ => 0, s9, 0, 600663, 7289673) := by
    refine B_L_law_7 ?_
    dsimp only
    rw [g0, Zz_u1 (a := 361) zI1 (by decide), Zz_u1 (a := 361) zR1 (by decide), Zz_u1 (a := 361) (zL0 0) (by decide)]
    refine ⟨⟨by decide, by decide, rfl⟩, rfl, ⟨by decide, by decide, Nat.le_of_ble_eq_true rfl⟩, True.intro, ?_⟩
    refine D_X10_init hG (by decide +kernel) (by rw [g1]; exact Zz_le zI1 (by decide)) (by rw [g1]; exact Zz_le zR1 (by decide)) (zL0 _) ?_
    rw [g1]
    refine af_N (cc := 7) (tt := 2544) rfl rfl rfl ?_
    exact h15
  refine B_L_law_0 ?_
  dsimp only
  try rw [show ([] : List (Nat × Nat)).length = 0 from rfl]
  rw [Zz_u1 (a := 0) zI0 (by decide), Zz_u1 (a := 0) zR0 (by decide), Zz_u1 (a := 0) (zL0 0) (by decide)]
  refine ⟨⟨by decide, by decide, rfl⟩, rfl, ⟨by decide, by decide, Nat.le_of_ble_eq_true rfl⟩, True.intro, ?_⟩
  refine D_X9_init hG ?_
  refine af_N (cc := 360) (tt := 3355) rfl rfl rfl ?_
  exact h7
