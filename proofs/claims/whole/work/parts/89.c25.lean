/-! ===== the class: texts are loaded ===== -/
theorem L_loadC {G : amG} {I : Nat → Nat → Int} {R : Nat → Nat → Option Nat} {L : Nat → Nat → Int64} {x c1 t1 : Nat} {Q : amR → amH → Prop} (hG : amG0 G) (hRK : RK R) {z : Row} {n : Int} {zs : Nat → Row} (hC : CS I R z n zs) (hZ : ZF z) {o : Int} {r : Row} (ho : 0 ≤ o ∧ o ≤ 9) (hr : rOK r o) (hg : z 317 ≤ 70000) (hT : ∀ j : Nat, (j : Int) ≤ o → I 348 j = r (3 * j) ∧ I 349 j = 12 * r (3 * j + 2) + r (3 * j + 1)) (hK : ∀ (m : Int) (J : Nat → Nat → Int), (0 ≤ m ∧ m ≤ o + 1) → (∀ a : Nat, 50 ≤ a → a ≠ 352 → a ≠ 353 → J a = I a) → CS J R (ldZ z r m.toNat) n zs → (∀ i : Nat, i < m.toNat → ldC z r i) → (m = o + 1 ∨ ¬ ldC z r m.toNat) → X G mX9_load Q 91 [some (aR (some 0)), some (aI (o + 1)), some (aI m)] [] (J, R, L, SH, x, c1, t1)) :
    ∀ (n_ : Nat) (m : Int) (J : Nat → Nat → Int), (0 ≤ m ∧ m ≤ o + 1 ∧ o + 1 - m < n_) → (∀ a : Nat, 50 ≤ a → a ≠ 352 → a ≠ 353 → J a = I a) → CS J R (ldZ z r m.toNat) n zs → (∀ i : Nat, i < m.toNat → ldC z r i) → X G mX9_load Q 41 [some (aR (some 0)), some (aI (o + 1)), some (aI m)] [] (J, R, L, SH, x, c1, t1) := by
  intro n_
  induction n_ with
  | zero =>
    intros
    exfalso; omega
  | succ n_ ih =>
    intro m J h1 hJ hCm hc
    obtain ⟨w1', w2, w3, w4, w5⟩ := ldZ_WF hZ.1 hZ.2.1 hZ.2.2 hr (by omega) m.toNat (by omega) hc
    have hZm : ZF (ldZ z r m.toNat) := ⟨w1', by have := hZ.2.1; omega, by omega⟩
    have hs := ldZ_s z r m.toNat
    have hTm : m ≤ o → J 348 m.toNat = r (3 * m.toNat) ∧ J 349 m.toNat = 12 * r (3 * m.toNat + 2) + r (3 * m.toNat + 1) := fun u => by
      rw [hJ 348 (by decide) (by decide) (by decide), hJ 349 (by decide) (by decide) (by decide)]
      exact hT m.toNat (by omega)
    have hrm : m ≤ o → (0 ≤ r (3 * m.toNat) ∧ r (3 * m.toNat) ≤ 11) ∧ (0 ≤ r (3 * m.toNat + 1) ∧ r (3 * m.toNat + 1) ≤ 11) ∧ 0 ≤ r (3 * m.toNat + 2) ∧ r (3 * m.toNat + 2) ≤ 7 := fun u => hr m.toNat (by omega)
    refine B_X9_load_41 ?_
    try dsimp only
    refine ⟨fun c43_0 => ?_, fun c43_0 => ?_⟩
    · first
        | exact hK m J (by omega) hJ hCm hc (Or.inl (by omega))
        | (refine hK m J2 (by omega) (fun a a1 a2 a3 => by rw [j2 a a2 a3]; exact hJ a a1 a2 a3) hC2 hc (Or.inr (fun u => ?_))
           rcases hrr with y | y
           · omega
           · exact y.1 u)
    · have hTm := hTm (by omega)
      have hrm := hrm (by omega)
      refine ⟨so0, _, (by first | exact hRK2.x.2.2.2.1 | exact hRK.x.2.2.2.1), ?_⟩
      refine ⟨sx0, _, (by first | exact hRK2.t.2.1 | exact hRK.t.2.1), ?_⟩
      refine ⟨_, sx2, ⟨by omega, by omega⟩, ?_⟩
      refine ⟨⟨Nat.zero_le _, Nat.zero_le _, Nat.le_of_ble_eq_true rfl⟩, so0, ?_⟩
      rw [hTm.1]
      refine D_canSend hG hRK hCm hZm (by omega) (fun rr J2 hrr j2 hC2 => ?_)
      rw [w2] at hrr
      have j4 : J2 348 = J 348 := j2 348 (by decide) (by decide)
      have j5 : J2 349 = J 349 := j2 349 (by decide) (by decide)
      refine af_I0 rfl rfl (by decide) ?_
      try dsimp only
      refine B_X9_load_59 ?_
      try dsimp only
      refine ⟨fun c59_1 => ?_, fun c59_1 => ?_⟩
      · first
          | exact hK m J (by omega) hJ hCm hc (Or.inl (by omega))
          | (refine hK m J2 (by omega) (fun a a1 a2 a3 => by rw [j2 a a2 a3]; exact hJ a a1 a2 a3) hC2 hc (Or.inr (fun u => ?_))
             rcases hrr with y | y
             · omega
             · exact y.1 u)
      · refine ⟨so0, _, (by first | exact hRK2.x.2.2.2.1 | exact hRK.x.2.2.2.1), ?_⟩
        refine ⟨sx0, _, (by first | exact hRK2.t.2.1 | exact hRK.t.2.1), ?_⟩
        refine ⟨_, sx2, ⟨by omega, by omega⟩, ?_⟩
        refine ⟨so0, _, (by first | exact hRK2.x.2.2.2.1 | exact hRK.x.2.2.2.1), ?_⟩
        refine ⟨sx0, _, (by first | exact hRK2.t.2.2 | exact hRK.t.2.2), ?_⟩
        refine ⟨_, sx3, ⟨by omega, by omega⟩, ?_⟩
        refine ⟨⟨Nat.zero_le _, Nat.zero_le _, Nat.le_of_ble_eq_true rfl⟩, so0, ?_⟩
        rw [j4, j5, hTm.1, hTm.2]
        have hld : ldC z r m.toNat := by
          rcases hrr with u | u
          · exact u.1
          · omega
        refine D_sendOrder hG hRK hC2 hZm ⟨by omega, by rw [w2]; exact hld.1⟩ (by unfold isC; omega) hld.2 (fun J3 j3 hC3 => ?_)
        refine af_I0 rfl rfl (by decide) ?_
        try dsimp only
        refine B_X9_load_84 ?_
        try dsimp only
        refine ⟨rfl, ?_⟩
        refine ⟨by (refine ⟨?_, ?_⟩ <;> omega), ?_⟩
        refine ih (m + 1) J3 (by omega) (fun a a1 a2 a3 => by rw [j3 a (by omega) a2 a3, j2 a a2 a3]; exact hJ a a1 a2 a3) ?_ (fun i hi => ?_)
        · rw [show (m + 1).toNat = m.toNat + 1 by omega, hs]
          exact hC3
        · rcases (by omega : i < m.toNat ∨ i = m.toNat) with u | u
          · exact hc i u
          · rw [u]; exact hld
theorem D_load {G : amG} {I : Nat → Nat → Int} {R : Nat → Nat → Option Nat} {L : Nat → Nat → Int64} {x c t : Nat} {Q : amR → amH → Prop} (hG : amG0 G) (hRK : RK R) {z : Row} {n : Int} {zs : Nat → Row} (hC : CS I R z n zs) (hZ : ZF z) (hg : z 317 ≤ 70000) (hl : 0 ≤ I 346 1 ∧ I 346 1 ≤ 60) (hT : ∀ k : Nat, k < 60 → 0 ≤ I 347 k ∧ I 347 k ≤ 1000) {r0 : Row} (hT1 : sgN (I 347) (I 346 1).toNat ≠ 7 → QW Q I L (Sum.inr 1) z n zs) (hQ : ∀ s : TS, pS (I 347) r0 (I 346 1).toNat = some s → s.1 = 2 → 0 < s.2.1 → ∀ m : Nat, (m : Int) ≤ s.2.2.1 + 1 → (∀ i : Nat, i < m → ldC z s.2.2.2 i) → ((m : Int) = s.2.2.1 + 1 ∨ ¬ ldC z s.2.2.2 m) → ∀ (J : Nat → Nat → Int) (R' : Nat → Nat → Option Nat) (x c t : Nat), (∀ a : Nat, 361 ≤ a → J a = I a) → J 346 1 = 0 → J 347 = I 347 → RK R' → CS J R' (ldZ z s.2.2.2 m) (svN n) (svZ n zs z) → Q (Sum.inl (some (aI m))) (J, R', L, SH, x, c, t)) : CT G sX9_load [aR (some 0)] (I, R, L, SH, x, c, t) Q := by
  refine CT_of ok_X9_load hG (Nat.le_of_ble_eq_true rfl) ?_
  show X G mX9_load Q 0 _ [] (I, R, L, SH, x, 1, 6)
  refine B_X9_load_0 ?_
  try dsimp only
  refine ⟨so0, _, (by first | exact hRK2.x.2.2.2.1 | exact hRK.x.2.2.2.1), ?_⟩
  refine ⟨⟨Nat.zero_le _, Nat.zero_le _, Nat.le_of_ble_eq_true rfl⟩, sx0, ?_⟩
  refine D_isComplete hG hRK.t hl (fun rc hrc => ?_)
  refine af_I0 rfl rfl (by decide) ?_
  try dsimp only
  refine B_X9_load_7 ?_
  try dsimp only
  refine ⟨fun c7_1 => ?_, fun c7_1 => ?_⟩
  · refine B_X9_load_20 ?_
    try dsimp only
    refine ⟨so0, _, (by first | exact hRK2.x.2.2.1 | exact hRK.x.2.2.1), ?_⟩
    refine ⟨so0, _, (by first | exact hRK2.x.1 | exact hRK.x.1), ?_⟩
    refine ⟨⟨Nat.zero_le _, Nat.zero_le _, Nat.le_of_ble_eq_true rfl⟩, sh99, ?_⟩
    have h7 : sgN (I 347) (I 346 1).toNat = 7 := by
      rcases hrc with u | u
      · exact u.1
      · omega
    have hex : ∃ s : TS, pS (I 347) r0 (I 346 1).toNat = some s := by
      cases e : pS (I 347) r0 (I 346 1).toNat with
      | none => have := (sgN_is (I 347) r0 _).2 e; omega
      | some s => exact ⟨s, rfl⟩
    obtain ⟨s, hps⟩ := hex
    have hpi := pS_inv _ _ hps
    have hst := (sgN_is (I 347) r0 _).1 s hps
    rw [h7] at hst
    have h27 := (stg_7 hpi.1).mp hst.symm
    have h2 : s.1 = 2 := h27.1
    have h3 : 0 < s.2.1 := by
      have := hpi.2.2.2.1
      omega
    have hlen0 : 0 < I 346 1 := by
      rcases (by omega : I 346 1 = 0 ∨ 0 < I 346 1) with u | u
      · rw [u] at h7
        have h7 : (0 : Int) = 7 := h7
        omega
      · exact u
    have ho9 : 0 ≤ s.2.2.1 ∧ s.2.2.1 ≤ 9 := by
      have a := hpi.2.2.1
      have b := hpi.2.1
      split at a <;> omega
    have hrOK := pI_rOK hpi h2 h3
    refine D_saveCS hG hRK hC hZ (fun J1 R1 j1 hRK2 hC2 => ?_)
    refine af_N0 rfl rfl rfl ?_
    try dsimp only
    refine B_X9_load_31 ?_
    try dsimp only
    refine ⟨so0, _, (by first | exact hRK2.x.2.2.2.1 | exact hRK.x.2.2.2.1), ?_⟩
    refine ⟨⟨Nat.zero_le _, Nat.zero_le _, Nat.le_of_ble_eq_true rfl⟩, sx0, ?_⟩
    refine D_readOrders hG hRK2.t (len := I 346 1) (tt := I 347) (r0 := r0) (sf := s) (by rw [j1 346 (by omega)]) (j1 347 (by omega)) hl (by rw [j1 347 (by omega)]; exact hT) hps h2 h3 hlen0 (fun T Gl hTG => ?_)
    refine af_I0 rfl rfl (by decide) ?_
    try dsimp only
    refine B_X9_load_38 ?_
    try dsimp only
    have hCR : CS (pr (pr J1 348 T) 349 Gl) R1 z (svN n) (svZ n zs z) := CS_off hC2 hZ (fun a ha => by rw [pr_off _ _ (by omega), pr_off _ _ (by omega)])
    refine L_loadC hG hRK2 hCR hZ (o := s.2.2.1) (r := s.2.2.2) ho9 hrOK hg (fun j hj => ?_) (fun m J hm hJ hCm hc he => ?_) 12 0 _ (by omega) (fun a a1 a2 a3 => rfl) hCR (fun i hi => absurd hi (Nat.not_lt_zero _))
    · rw [pr_off _ _ (by decide), pr_at, pr_at]
      exact hTG j hj
    have he : ((m.toNat : Nat) : Int) = s.2.2.1 + 1 ∨ ¬ ldC z s.2.2.2 m.toNat := by
      rcases he with u | u
      · exact Or.inl (by omega)
      · exact Or.inr u
    obtain ⟨w1', w2, w3, w4, w5⟩ := ldZ_WF hZ.1 hZ.2.1 hZ.2.2 hrOK (by omega) m.toNat (by omega) hc
    refine B_X9_load_91 ?_
    try dsimp only
    refine ⟨so0, _, (by first | exact hRK2.x.2.2.2.1 | exact hRK.x.2.2.2.1), ?_⟩
    refine ⟨sx0, ?_⟩
    have em : ((m.toNat : Nat) : Int) = m := by omega
    rw [← em]
    refine hQ s hps h2 h3 m.toNat (by omega) hc he _ R1 _ _ _ (fun a ha => ?_) ?_ ?_ hRK2 (CS_off hCm ⟨w1', by have := hZ.2.1; omega, by have := hrOK; omega⟩ (fun a ha => u2_off _ _ _ (by omega)))
    · rw [u2_off _ _ _ (by omega), hJ a (by omega) (by omega) (by omega), pr_off _ _ (by omega), pr_off _ _ (by omega), j1 a (by omega)]
    · rw [u2_same]
    · rw [u2_off _ _ _ (by decide), hJ 347 (by decide) (by decide) (by decide), pr_off _ _ (by decide), pr_off _ _ (by decide), j1 347 (by omega)]
  · refine ⟨⟨by omega, by omega, Nat.le_of_ble_eq_true rfl⟩, ?_⟩
    exact hT1 (by rcases hrc with u | u <;> omega) I R _ _ _ (fun _ _ => rfl) rfl rfl hRK hC
