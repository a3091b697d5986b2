variable {sT : List (Nat × Nat)}
/-! ===== the class: orders come ===== -/
theorem insR_end {l : List OD} {x : OD} (h : ∀ d : OD, d ∈ l → due d ≤ due x) : insR l x = l ++ [x] := by
  induction l with
  | nil => rfl
  | cons d l ih =>
    rw [insR_c, if_pos (h d List.mem_cons_self), ih (fun e he => h e (List.mem_cons_of_mem _ he))]
    rfl
theorem srt_eq {t : Int} : ∀ l : List OD, (∀ d : OD, d ∈ l → due d = t) → srt l = l := srt_all (fun _ => rfl) (fun l x ih h => by
  have hl : ∀ d : OD, d ∈ l → due d = t := fun d hd => h d (List.mem_append.mpr (Or.inl hd))
  have hx : due x = t := h x (List.mem_append.mpr (Or.inr List.mem_cons_self))
  rw [srt_snoc, ih hl, insR_end (fun d hd => by rw [hl d hd, hx]; exact Int.le_refl _)])
theorem flt_le {l : List OD} {t : Int} (h : ∀ d : OD, d ∈ l → t ≤ due d) : l.filter (fun d => decide (due d ≤ t)) = l.filter (fun d => decide (d.2.2.2 = t)) ∧ l.filter (fun d => !decide (due d ≤ t)) = l.filter (fun d => !decide (d.2.2.2 = t)) := by
  refine ⟨List.filter_congr (fun d hd => ?_), List.filter_congr (fun d hd => ?_)⟩
  · have := h d hd
    exact decide_eq_decide.mpr ⟨fun w => by have w : d.2.2.2 ≤ t := w; have := h d hd; show d.2.2.2 = t; have q : t ≤ d.2.2.2 := this; omega, fun w => by show d.2.2.2 ≤ t; omega⟩
  · congr 1
    exact decide_eq_decide.mpr ⟨fun w => by have w : d.2.2.2 ≤ t := w; have := h d hd; show d.2.2.2 = t; have q : t ≤ d.2.2.2 := this; omega, fun w => by show d.2.2.2 ≤ t; omega⟩
theorem cmF_inv {z : Row} : ∀ l : List OD, (∀ d : OD, d ∈ l → 0 ≤ d.2.1 ∧ d.2.1 < 12) → (∀ i : Nat, i < 99 ∨ 195 ≤ i → i ≠ 318 → cmF z l i = z i) ∧ (z 318 ≤ cmF z l 318 ∧ cmF z l 318 ≤ z 318 + l.length) ∧ ∀ t : Nat, t < 12 → tf z t 7 ≤ tf (cmF z l) t 7 ∧ tf (cmF z l) t 7 ≤ tf z t 7 + l.length := srt_all (fun _ => ⟨fun i _ _ => rfl, by show z 318 ≤ z 318 ∧ z 318 ≤ z 318 + ((0 : Nat) : Int); omega, fun t _ => by show tf z t 7 ≤ tf z t 7 ∧ tf z t 7 ≤ tf z t 7 + ((0 : Nat) : Int); omega⟩) (fun l x ih h => by
  obtain ⟨i1, i2, i3⟩ := ih (fun d hd => h d (List.mem_append.mpr (Or.inl hd)))
  have hx := h x (List.mem_append.mpr (Or.inr List.mem_cons_self))
  have hk : x.2.1.toNat < 12 := by omega
  rw [cmF_snoc, List.length_append, List.length_singleton]
  refine ⟨fun i hi h8 => ?_, ?_, fun t ht => ?_⟩
  · rw [comeZ_off hk hi h8]; exact i1 i hi h8
  · have := comeZ_m (z := cmF z l) (v := x.2.2.1) hk
    omega
  · have a := comeZ_7 (z := cmF z l) (k := x.2.1.toNat) (v := x.2.2.1) ht
    have := i3 t ht
    omega)
theorem take_step {l : List OD} {j : Nat} {d : OD} (h : l[j]? = some d) : l.take (j + 1) = l.take j ++ [d] := by
  rw [List.take_add_one, h]
  rfl
theorem L_bring {G : amG} {I : Nat → Nat → Int} {R : Nat → Nat → Option Nat} {L : Nat → Nat → Int64} {x : Nat} {Q : amR → amH → Prop} (hG : amG0 G) {b : Nat} (hB : wb b) (hRW : RW R b) {z : Row} (hW : WV I b z) (hb : wfB z) (hO : WO I b z) (ho : wfO z (z 316)) (hcm : ∀ l : Nat, l < 12 → 0 ≤ tf z l 7 ∧ tf z l 7 ≤ 900000) (hmi : 0 ≤ z 318 ∧ z 318 ≤ 900000) (hK : ∀ (j : Int) (J : Nat → Nat → Int) (l2 l3 : Option amV), (0 ≤ j ∧ j ≤ z 195) → FO I J b → WV J b (cmF z ((oc I b (z 195).toNat).take j.toNat)) → (j.toNat = cL (oc I b (z 195).toNat) (z 316)) → X G mX2_bringOrders Q 87 [some (aR (some b)), some (aI j), l2, l3] [] (J, R, L, (SH sT), x, 0, 0)) :
    ∀ (n : Nat) (j : Int) (J : Nat → Nat → Int) (l2 l3 : Option amV), (0 ≤ j ∧ j ≤ z 195 ∧ z 195 - j < n) → FO I J b → WV J b (cmF z ((oc I b (z 195).toNat).take j.toNat)) → (j.toNat ≤ cL (oc I b (z 195).toNat) (z 316)) → X G mX2_bringOrders Q 2 [some (aR (some b)), some (aI j), l2, l3] [] (J, R, L, (SH sT), x, 0, 0) := by
  intro n
  induction n with
  | zero =>
    intros
    exfalso; omega
  | succ n ih =>
    intro j J l2 l3 h1 hF hJ hj
    have hn1 := hb.2.1.1
    have hn2 := hb.2.1.2
    have hb1 := wb_le hB
    have h30 := ho.1
    have hsd : sdL (oc I b (z 195).toNat) := by rw [hO]; exact srt_sd _
    have hmem : ∀ d : OD, d ∈ (oc I b (z 195).toNat) → (0 ≤ d.2.1 ∧ d.2.1 < z 98) ∧ isC d.2.2.1 ∧ z 316 ≤ d.2.2.2 ∧ d.2.2.2 ≤ 1100 := fun d hd => by
      rw [hO, srt_mem] at hd
      exact wfO_mem ho hd
    obtain ⟨i1, i2, i3⟩ := cmF_inv (z := z) ((oc I b (z 195).toNat).take j.toNat) (fun d hd => by have := hmem d (List.mem_of_mem_take hd); omega)
    have hlen : ((oc I b (z 195).toNat).take j.toNat).length ≤ 30 := by rw [List.length_take, oc_len]; omega
    have e98 := i1 98 (by omega) (by omega)
    have e195 := i1 195 (by omega) (by omega)
    have e316 := i1 316 (by omega) (by omega)
    have hat : j < z 195 → (oc I b (z 195).toNat)[j.toNat]? = some (odC I b j.toNat) := fun u => oc_at (by omega)
    have hst : j < z 195 → cmF z ((oc I b (z 195).toNat).take (j.toNat + 1)) = comeZ (cmF z ((oc I b (z 195).toNat).take j.toNat)) (I (b + 19 + j.toNat) 1).toNat (I (b + 19 + j.toNat) 2) := fun u => by
      rw [take_step (hat u), cmF_snoc]
      rfl
    have hor : J (b + 19 + j.toNat) = I (b + 19 + j.toNat) := hF _ (by omega)
    have hdu : j < z 195 → (j.toNat < cL (oc I b (z 195).toNat) (z 316) ↔ I (b + 19 + j.toNat) 3 ≤ z 316) := fun u => sd_at hsd j.toNat (z 316) _ (hat u)
    have hod : j < z 195 → (0 ≤ I (b + 19 + j.toNat) 1 ∧ I (b + 19 + j.toNat) 1 < z 98) ∧ isC (I (b + 19 + j.toNat) 2) ∧ z 316 ≤ I (b + 19 + j.toNat) 3 ∧ I (b + 19 + j.toNat) 3 ≤ 1100 := fun u => hmem _ (List.mem_of_getElem? (hat u))
    have hcle := cL_le (oc I b (z 195).toNat) (z 316)
    rw [oc_len] at hcle
    have hK2 := hK j J
    generalize cmF z ((oc I b (z 195).toNat).take j.toNat) = w at *
    refine B_X2_bringOrders_2 ?_
    try dsimp only
    try simp (disch := omega) only [u2_same, u2_ne, hor, wN hJ, wO hJ, wTu hJ, wGi hJ, wMi hJ, wL0 hJ, wL1 hJ, wG0 hJ, wG1 hJ, wT hJ, wH hJ, e98, e195, e316]
    refine ⟨sw0 hB, ?_⟩
    try simp (disch := omega) only [u2_same, u2_ne, hor, wN hJ, wO hJ, wTu hJ, wGi hJ, wMi hJ, wL0 hJ, wL1 hJ, wG0 hJ, wG1 hJ, wT hJ, wH hJ, e98, e195, e316]
    refine ⟨fun c7_0 => ?_, fun c7_0 => ?_⟩
    · refine hK2 _ _ (by omega) hF hJ ?_
      first
        | omega
        | (have hdu2 := hdu (by omega)
           omega)
    · have hod := hod (by omega)
      have hdu := hdu (by omega)
      have hst := hst (by omega)
      refine ⟨sw0 hB, _, hRW.orr, ?_⟩
      refine ⟨_, _, sw5 hB, ⟨by decide, by decide⟩, ⟨by omega, by omega⟩, _, hRW.o (by omega), ?_⟩
      refine ⟨swO hB (by omega), ?_⟩
      try simp (disch := omega) only [u2_same, u2_ne, hor, wN hJ, wO hJ, wTu hJ, wGi hJ, wMi hJ, wL0 hJ, wL1 hJ, wG0 hJ, wG1 hJ, wT hJ, wH hJ, e98, e195, e316]
      refine ⟨sw0 hB, ?_⟩
      try simp (disch := omega) only [u2_same, u2_ne, hor, wN hJ, wO hJ, wTu hJ, wGi hJ, wMi hJ, wL0 hJ, wL1 hJ, wG0 hJ, wG1 hJ, wT hJ, wH hJ, e98, e195, e316]
      refine ⟨fun c23_0 => ?_, fun c23_0 => ?_⟩
      · refine hK2 _ _ (by omega) hF hJ ?_
        first
          | omega
          | (have hdu2 := hdu (by omega)
             omega)
      · refine ⟨sw0 hB, _, hRW.orr, ?_⟩
        refine ⟨_, _, sw5 hB, ⟨by decide, by decide⟩, ⟨by omega, by omega⟩, _, hRW.o (by omega), ?_⟩
        refine ⟨sw0 hB, _, hRW.tr, ?_⟩
        refine ⟨swO hB (by omega), ?_⟩
        try simp (disch := omega) only [u2_same, u2_ne, hor, wN hJ, wO hJ, wTu hJ, wGi hJ, wMi hJ, wL0 hJ, wL1 hJ, wG0 hJ, wG1 hJ, wT hJ, wH hJ, e98, e195, e316]
        refine ⟨_, _, sw4 hB, ⟨by decide, by decide⟩, ⟨by omega, by omega⟩, _, hRW.t (by omega), ?_⟩
        have hb3 := i3 (I (b + 19 + j.toNat) 1).toNat (by omega)
        have hb4 := hcm (I (b + 19 + j.toNat) 1).toNat (by omega)
        refine ⟨swT hB (by omega), ?_⟩
        try simp (disch := omega) only [u2_same, u2_ne, hor, wN hJ, wO hJ, wTu hJ, wGi hJ, wMi hJ, wL0 hJ, wL1 hJ, wG0 hJ, wG1 hJ, wT hJ, wH hJ, e98, e195, e316]
        refine ⟨fun c47_0 => ?_, fun c47_0 => ?_⟩
        · refine B_X2_bringOrders_71 ?_
          try dsimp only
          try simp (disch := omega) only [u2_same, u2_ne, hor, wN hJ, wO hJ, wTu hJ, wGi hJ, wMi hJ, wL0 hJ, wL1 hJ, wG0 hJ, wG1 hJ, wT hJ, wH hJ, e98, e195, e316]
          refine ⟨rfl, ?_⟩
          refine ⟨sw0 hB, ?_⟩
          try simp (disch := omega) only [u2_same, u2_ne, hor, wN hJ, wO hJ, wTu hJ, wGi hJ, wMi hJ, wL0 hJ, wL1 hJ, wG0 hJ, wG1 hJ, wT hJ, wH hJ, e98, e195, e316]
          refine ⟨by (refine ⟨?_, ?_⟩ <;> omega), ?_⟩
          refine ⟨sw0 hB, ?_⟩
          try simp (disch := omega) only [u2_same, u2_ne, hor, wN hJ, wO hJ, wTu hJ, wGi hJ, wMi hJ, wL0 hJ, wL1 hJ, wG0 hJ, wG1 hJ, wT hJ, wH hJ, e98, e195, e316]
          refine B_X2_bringOrders_81 ?_
          try dsimp only
          try simp (disch := omega) only [u2_same, u2_ne, hor, wN hJ, wO hJ, wTu hJ, wGi hJ, wMi hJ, wL0 hJ, wL1 hJ, wG0 hJ, wG1 hJ, wT hJ, wH hJ, e98, e195, e316]
          refine ⟨by (refine ⟨?_, ?_⟩ <;> omega), ?_⟩
          refine ih (j + 1) _ _ _ (by omega) ?_ ?_ (by omega)
          · first
              | exact FO_u2 (FO_u2 hF _ _ (by omega)) _ _ (by omega)
              | exact FO_u2 hF _ _ (by omega)
          · rw [show (j + 1).toNat = j.toNat + 1 by omega, hst]
            unfold comeZ
            first
              | (have e0 : w (99 + 8 * (I (b + 19 + j.toNat) 1).toNat + 4) = 0 := by
                   show tf w (I (b + 19 + j.toNat) 1).toNat 4 = 0
                   omega
                 rw [if_pos e0]
                 exact WV_t (WV_t hJ (by omega) (I (b + 19 + j.toNat) 2) (k := (I (b + 19 + j.toNat) 1).toNat) (f := 3) (by omega) (by decide)) (by rw [uz_ne _ _ (by omega)]; omega) (tf w (I (b + 19 + j.toNat) 1).toNat 7 + 1) (by rw [uz_ne _ _ (by omega)]; omega) (by decide))
              | (have e0 : ¬ w (99 + 8 * (I (b + 19 + j.toNat) 1).toNat + 4) = 0 := by
                   show ¬ tf w (I (b + 19 + j.toNat) 1).toNat 4 = 0
                   omega
                 rw [if_neg e0]
                 exact WV_mi hJ (by omega) _)
        · refine ⟨swO hB (by omega), ?_⟩
          try simp (disch := omega) only [u2_same, u2_ne, hor, wN hJ, wO hJ, wTu hJ, wGi hJ, wMi hJ, wL0 hJ, wL1 hJ, wG0 hJ, wG1 hJ, wT hJ, wH hJ, e98, e195, e316]
          refine ⟨swT hB (by omega), ?_⟩
          try simp (disch := omega) only [u2_same, u2_ne, hor, wN hJ, wO hJ, wTu hJ, wGi hJ, wMi hJ, wL0 hJ, wL1 hJ, wG0 hJ, wG1 hJ, wT hJ, wH hJ, e98, e195, e316]
          refine ⟨rfl, ?_⟩
          refine ⟨swT hB (by omega), ?_⟩
          try simp (disch := omega) only [u2_same, u2_ne, hor, wN hJ, wO hJ, wTu hJ, wGi hJ, wMi hJ, wL0 hJ, wL1 hJ, wG0 hJ, wG1 hJ, wT hJ, wH hJ, e98, e195, e316]
          refine ⟨by (refine ⟨?_, ?_⟩ <;> omega), ?_⟩
          refine ⟨swT hB (by omega), ?_⟩
          try simp (disch := omega) only [u2_same, u2_ne, hor, wN hJ, wO hJ, wTu hJ, wGi hJ, wMi hJ, wL0 hJ, wL1 hJ, wG0 hJ, wG1 hJ, wT hJ, wH hJ, e98, e195, e316]
          refine B_X2_bringOrders_81 ?_
          try dsimp only
          try simp (disch := omega) only [u2_same, u2_ne, hor, wN hJ, wO hJ, wTu hJ, wGi hJ, wMi hJ, wL0 hJ, wL1 hJ, wG0 hJ, wG1 hJ, wT hJ, wH hJ, e98, e195, e316]
          refine ⟨by (refine ⟨?_, ?_⟩ <;> omega), ?_⟩
          refine ih (j + 1) _ _ _ (by omega) ?_ ?_ (by omega)
          · first
              | exact FO_u2 (FO_u2 hF _ _ (by omega)) _ _ (by omega)
              | exact FO_u2 hF _ _ (by omega)
          · rw [show (j + 1).toNat = j.toNat + 1 by omega, hst]
            unfold comeZ
            first
              | (have e0 : w (99 + 8 * (I (b + 19 + j.toNat) 1).toNat + 4) = 0 := by
                   show tf w (I (b + 19 + j.toNat) 1).toNat 4 = 0
                   omega
                 rw [if_pos e0]
                 exact WV_t (WV_t hJ (by omega) (I (b + 19 + j.toNat) 2) (k := (I (b + 19 + j.toNat) 1).toNat) (f := 3) (by omega) (by decide)) (by rw [uz_ne _ _ (by omega)]; omega) (tf w (I (b + 19 + j.toNat) 1).toNat 7 + 1) (by rw [uz_ne _ _ (by omega)]; omega) (by decide))
              | (have e0 : ¬ w (99 + 8 * (I (b + 19 + j.toNat) 1).toNat + 4) = 0 := by
                   show ¬ tf w (I (b + 19 + j.toNat) 1).toNat 4 = 0
                   omega
                 rw [if_neg e0]
                 exact WV_mi hJ (by omega) _)
theorem D_bringOrders {G : amG} {I : Nat → Nat → Int} {R : Nat → Nat → Option Nat} {L : Nat → Nat → Int64} {x c t : Nat} {Q : amR → amH → Prop} (hG : amG0 G) {b : Nat} (hB : wb b) (hRW : RW R b) {z : Row} (hW : WV I b z) (hb : wfB z) (hO : WO I b z) (ho : wfO z (z 316)) (hcm : ∀ l : Nat, l < 12 → 0 ≤ tf z l 7 ∧ tf z l 7 ≤ 900000) (hmi : 0 ≤ z 318 ∧ z 318 ≤ 900000) (hQ : ∀ K : Nat → Nat → Int, (∀ c : Nat, c < b ∨ b + 49 ≤ c → K c = I c) → WV K b (comeAllZ z) → WO K b (comeAllZ z) → Q (Sum.inl none) (K, R, L, (SH sT), x, 0, 0)) : CT G sX2_bringOrders [aR (some b)] (I, R, L, (SH sT), x, c, t) Q := by
  refine CT_of ok_X2_bringOrders hG (Nat.le_of_ble_eq_true rfl) ?_
  show X G mX2_bringOrders Q 0 _ [] (I, R, L, (SH sT), x, 0, 0)
  have hn1 := hb.2.1.1
  have hn2 := hb.2.1.2
  have hb1 := wb_le hB
  refine B_X2_bringOrders_0 ?_
  try dsimp only
  have hmem : ∀ d : OD, d ∈ (oc I b (z 195).toNat) → (0 ≤ d.2.1 ∧ d.2.1 < z 98) ∧ isC d.2.2.1 ∧ z 316 ≤ d.2.2.2 ∧ d.2.2.2 ≤ 1100 := fun d hd => by
    rw [hO, srt_mem] at hd
    exact wfO_mem ho hd
  refine L_bring hG hB hRW hW hb hO ho hcm hmi (fun j J l2 l3 h1 hF hJ hj => ?_) 31 0 I none none (by have := ho.1; omega) (FO_refl I b) hW (Nat.zero_le _)
  refine B_X2_bringOrders_87 ?_
  try dsimp only
  refine ⟨⟨Nat.zero_le _, Nat.zero_le _, Nat.le_of_ble_eq_true rfl⟩, sw0 hB, ?_⟩
  have h30 := ho.1
  have hJ5 : J b 5 = z 195 := by
    rw [wO hJ]
    exact (cmF_inv (z := z) ((oc I b (z 195).toNat).take j.toNat) (fun d hd => by have := hmem d (List.mem_of_mem_take hd); omega)).1 195 (by omega) (by omega)
  refine D_drop hG hB hRW (m := z 195) (by omega) hJ5 (fun K k1 k2 k3 k4 => ?_)
  refine af_N0 rfl rfl rfl ?_
  try dsimp only
  refine B_X2_bringOrders_92 ?_
  try dsimp only
  refine ⟨rfl, ?_⟩
  have hoc : oc J b (z 195).toNat = (oc I b (z 195).toNat) := FO_oc hF _
  have hall := comeAll_os (wfO_12 hb.2.1 ho) ho.1
  have hf := flt_le (l := os z (z 195).toNat) (t := z 316) (fun d hd => (wfO_mem ho hd).2.2.1)
  have htd := sd_take (by rw [hO]; exact srt_sd _ : sdL (oc I b (z 195).toNat)) (z 316)
  rw [← hj, hO, ← srt_flt, ← srt_flt, hf.1, hf.2] at htd
  rw [srt_eq (t := z 316) _ (fun d hd => by have := (List.mem_filter.mp hd).2; simpa using this)] at htd
  rw [hoc, hO, ← htd.2, ← hall.1] at k4
  rw [hO, ← htd.1] at hJ
  have hcnt : z 195 - j = comeAllZ z 195 := by
    have e := congrArg List.length k4
    rw [oc_len, srt_len, os_len] at e
    have := (comeAll_all (wfO_12 hb.2.1 ho) ho.1).2.1.1
    omega
  have hqO := hall.2
  have h98 := (comeAll_all (wfO_12 hb.2.1 ho) ho.1).1 98 (by omega) (by omega)
  have hw98 := hqO 98 (by omega)
  refine hQ K (fun c hc => ?_) ⟨fun i hi => ?_, ⟨?_, ?_⟩, ?_, ?_, ?_, ?_, ?_, ⟨?_, ?_⟩, fun k f hk hf => ?_⟩ ?_
  · rw [k1 c (by omega) (by omega)]
    exact hF c (by omega)
  · rw [k1 _ (by omega) (by omega), hqO i (by omega)]; exact wH hJ i hi
  · rw [k1 _ (by omega) (by omega), hqO 96 (by omega)]; exact wG0 hJ
  · rw [k1 _ (by omega) (by omega), hqO 97 (by omega)]; exact wG1 hJ
  · rw [k2 _ (by omega), hw98]; exact wN hJ
  · rw [k3, hcnt]
  · rw [k2 _ (by omega), hqO 316 (by omega)]; exact wTu hJ
  · rw [k2 _ (by omega), hqO 317 (by omega)]; exact wGi hJ
  · rw [k2 _ (by omega), hqO 318 (by omega)]; exact wMi hJ
  · rw [k1 _ (by omega) (by omega), hqO 319 (by omega)]; exact wL0 hJ
  · rw [k1 _ (by omega) (by omega), hqO 320 (by omega)]; exact wL1 hJ
  · rw [k1 _ (by omega) (by omega), eqO_t hqO (by omega) hf]
    exact wT hJ k f (by omega) hf
  · unfold WO
    rw [← hcnt]
    rw [← hcnt] at k4
    exact k4
/-! ===== the class: turns pass ===== -/
/-- a war and the marshal's ways have changed -/
def FP (I J : Nat → Nat → Int) (b : Nat) : Prop := ∀ c : Nat, c < b ∨ b + 49 ≤ c → c ≠ 358 → c ≠ 359 → c ≠ 360 → J c = I c
theorem FP_refl (I : Nat → Nat → Int) (b : Nat) : FP I I b := fun _ _ _ _ _ => rfl
theorem FP_M {I J : Nat → Nat → Int} {b : Nat} (h : FM I J b) : FP I J b := fun c hc => h c (by omega)
theorem FP_trans {I J K : Nat → Nat → Int} {b : Nat} (h : FP I J b) (h2 : FP J K b) : FP I K b := fun c hc a1 a2 a3 => by rw [h2 c hc a1 a2 a3, h c hc a1 a2 a3]
theorem WO_keep {I J : Nat → Nat → Int} {b : Nat} {y z : Row} (h : WO I b z) (h30 : 0 ≤ z 195 ∧ z 195 ≤ 30) (hoc : ∀ n : Nat, n ≤ 30 → oc J b n = oc I b n) (hz : ∀ i : Nat, 195 ≤ i → i < 316 → y i = z i) : WO J b y := by
  unfold WO at h ⊢
  rw [hz 195 (by omega) (by omega), hoc _ (by omega), os_congr (y := y) (z := z) (fun i h1 h2 => hz i (by omega) (by omega))]
  exact h
theorem psA_C {z : Row} (h : WF z) (hm : z 316 ≤ 1060) : wfC (psA z) := by
  obtain ⟨b1, o1, i1, t1, k1, l1⟩ := psA_inv h
  have hC := h.2.2
  unfold wfC at hC ⊢
  have e17 := i1 317 (by omega)
  have e19 := i1 319 (by omega)
  have e20 := i1 320 (by omega)
  refine ⟨by omega, by omega, by omega, by omega, by omega, fun l hl => ?_⟩
  have := hC.2.2.2.2.2 l hl
  have := l1 l hl
  omega
theorem L_playS {G : amG} {I : Nat → Nat → Int} {R : Nat → Nat → Option Nat} {L : Nat → Nat → Int64} {x : Nat} {Q : amR → amH → Prop} (hG : amG0 G) {b : Nat} (hB : wb b) (hRW : RW R b) {w : Row} {u i : Int} (hbw : wfB w) (hK : ∀ J : Nat → Nat → Int, FO I J b → WV J b (setN w (w 98).toNat) → X G mX2_play Q 59 [some (aR (some 356)), some (aR (some b)), some (aI u), some (aI i), some (aI (w 98))] [] (J, R, L, (SH sT), x, 0, 0)) :
    ∀ (n : Nat) (j : Int) (J : Nat → Nat → Int), (0 ≤ j ∧ j ≤ w 98 ∧ w 98 - j < n) → FO I J b → WV J b (setN w j.toNat) → X G mX2_play Q 33 [some (aR (some 356)), some (aR (some b)), some (aI u), some (aI i), some (aI j)] [] (J, R, L, (SH sT), x, 0, 0) := by
  intro n
  induction n with
  | zero =>
    intros
    exfalso; omega
  | succ n ih =>
    intro j J h1 hF hJ
    have hn1 := hbw.2.1.1
    have hn2 := hbw.2.1.2
    have hb1 := wb_le hB
    obtain ⟨m1, m2, m3⟩ := setN_inv hbw j.toNat (by omega)
    have h98 := m2 98 (by omega)
    have hs := setN_s w j.toNat
    refine B_X2_play_33 ?_
    try dsimp only
    try simp (disch := omega) only [u2_same, u2_ne, wN hJ, wO hJ, wTu hJ, wGi hJ, wMi hJ, wL0 hJ, wL1 hJ, wG0 hJ, wG1 hJ, wT hJ, wH hJ, h98]
    refine ⟨sw0 hB, ?_⟩
    try simp (disch := omega) only [u2_same, u2_ne, wN hJ, wO hJ, wTu hJ, wGi hJ, wMi hJ, wL0 hJ, wL1 hJ, wG0 hJ, wG1 hJ, wT hJ, wH hJ, h98]
    refine ⟨fun c39_0 => ?_, fun c39_0 => ?_⟩
    · have e : j = w 98 := by omega
      rw [e] at hJ ⊢
      exact hK J hF hJ
    · refine ⟨sw0 hB, _, hRW.tr, ?_⟩
      refine ⟨_, _, sw4 hB, ⟨by decide, by decide⟩, ⟨by omega, by omega⟩, _, hRW.t (by omega), ?_⟩
      refine ⟨⟨Nat.zero_le _, Nat.zero_le _, Nat.le_of_ble_eq_true rfl⟩, trivial, ?_⟩
      refine D_steadyOrRout hG hB hRW hJ m1 (k := j) (by omega) (fun K hK2 wK => ?_)
      refine af_N0 rfl rfl rfl ?_
      try dsimp only
      try simp (disch := omega) only [u2_same, u2_ne, wN hJ, wO hJ, wTu hJ, wGi hJ, wMi hJ, wL0 hJ, wL1 hJ, wG0 hJ, wG1 hJ, wT hJ, wH hJ, h98]
      refine B_X2_play_53 ?_
      try dsimp only
      try simp (disch := omega) only [u2_same, u2_ne, wN hJ, wO hJ, wTu hJ, wGi hJ, wMi hJ, wL0 hJ, wL1 hJ, wG0 hJ, wG1 hJ, wT hJ, wH hJ, h98]
      refine ⟨by (refine ⟨?_, ?_⟩ <;> omega), ?_⟩
      refine ih (j + 1) _ (by omega) (FO_trans hF hK2) ?_
      rw [show (j + 1).toNat = j.toNat + 1 by omega, hs]
      exact wK
theorem L_play {G : amG} {I : Nat → Nat → Int} {R : Nat → Nat → Option Nat} {L : Nat → Nat → Int64} {x : Nat} {Q : amR → amH → Prop} (hG : amG0 G) {b : Nat} (hB : wb b) (hRW : RW R b) {z : Row} {u : Int} (hWF : WF z) (hu : 0 ≤ u ∧ z 316 + u ≤ 1061) (hRA : R 356 0 = some 357) (hRP : RP R 357) (hQ : ∀ J : Nat → Nat → Int, FP I J b → WV J b (passN z u.toNat) → WO J b (passN z u.toNat) → Q (Sum.inl none) (J, R, L, (SH sT), x, 0, 0)) :
    ∀ (n : Nat) (j : Int) (J : Nat → Nat → Int) (l4 : Option amV), (0 ≤ j ∧ j ≤ u ∧ u - j < n) → FP I J b → WV J b (passN z j.toNat) → WO J b (passN z j.toNat) → X G mX2_play Q 2 [some (aR (some 356)), some (aR (some b)), some (aI u), some (aI j), l4] [] (J, R, L, (SH sT), x, 0, 0) := by
  intro n
  induction n with
  | zero =>
    intros
    exfalso; omega
  | succ n ih =>
    intro j J l4 h1 hF hJ hO
    have h0C := hWF.2.2.1.1
    obtain ⟨hz1, hz2, hz3, hz4, hz5, hz6⟩ := passN_inv hWF j.toNat (by omega)
    have hs := passN_s z j.toNat
    have hb1 := wb_le hB
    have hn1 := hWF.1.2.1.1
    have hn2 := hWF.1.2.1.2
    have hQ' : j = u → FP I J b → Q (Sum.inl none) (J, R, L, (SH sT), x, 0, 0) := fun e hf => by rw [e] at hJ hO; exact hQ J hf hJ hO
    generalize passN z j.toNat = w at *
    refine B_X2_play_2 ?_
    try dsimp only
    try simp (disch := omega) only [wTu hJ]
    refine ⟨fun c4_0 => ?_, fun c4_0 => ?_⟩
    · refine B_X2_play_65 ?_
      try dsimp only
      try simp (disch := omega) only [wTu hJ]
      refine ⟨rfl, ?_⟩
      exact hQ' (by omega) hF
    · refine ⟨rfl, ?_⟩
      refine ⟨sw0 hB, ?_⟩
      try simp (disch := omega) only [wTu hJ]
      refine ⟨by (refine ⟨?_, ?_⟩ <;> omega), ?_⟩
      refine ⟨sw0 hB, ?_⟩
      try simp (disch := omega) only [wTu hJ]
      refine ⟨⟨Nat.zero_le _, Nat.zero_le _, Nat.le_of_ble_eq_true rfl⟩, trivial, ?_⟩
      have hC := hz1.2.2
      unfold wfC at hC
      have y0 := tick_B hz1
      have e16 : uz w 316 (w 316 + 1) 316 = w 316 + 1 := uz_same _ _ _
      have e18 : uz w 316 (w 316 + 1) 318 = w 318 := uz_ne _ _ (by decide)
      have w1 := WV_tu hJ (by omega) (w 316 + 1)
      have o1 : WO (u2 J b 6 (w 316 + 1)) b (uz w 316 (w 316 + 1)) := WO_keep hO hz1.2.1.1 (fun n hn => FO_oc (FO_u2 (FO_refl J b) _ _ (by omega)) n) (fun i h1 h2 => uz_ne _ _ (by omega))
      refine D_bringOrders hG hB hRW w1 y0.1 o1 y0.2 (fun l hl => ?_) (by rw [e18]; omega) (fun F2 f2 w2 o2 => ?_)
      · have := hC.2.2.2.2.2 l hl
        rw [tf_off (by omega) hl (by decide)]
        omega
      have hz1' := psA_inv hz1
      have ec98 : comeAllZ (uz w 316 (w 316 + 1)) 98 = w 98 := by
        rw [(comeAll_all (wfO_12 y0.1.2.1 y0.2) y0.2.1).1 98 (by omega) (by decide)]
        exact uz_ne _ _ (by decide)
      refine af_N0 rfl rfl rfl ?_
      try dsimp only
      try simp (disch := omega) only [wTu hJ]
      refine B_X2_play_21 ?_
      try dsimp only
      try simp (disch := omega) only [wTu hJ]
      refine ⟨⟨Nat.zero_le _, Nat.zero_le _, Nat.le_of_ble_eq_true rfl⟩, sa0, ?_⟩
      refine D_march hG hB hRW w2 (comeAll_B y0.1 y0.2).1 hRA hRP (fun F3 f3 w3 => ?_)
      rw [ec98] at w3
      have w3 : WV F3 b (psA w) := w3
      refine af_N0 rfl rfl rfl ?_
      try dsimp only
      try simp (disch := omega) only [wTu hJ]
      refine B_X2_play_26 ?_
      try dsimp only
      try simp (disch := omega) only [wTu hJ]
      refine ⟨⟨Nat.zero_le _, Nat.zero_le _, Nat.le_of_ble_eq_true rfl⟩, trivial, ?_⟩
      refine D_fight hG hB hRW w3 hz1'.1 (psA_C hz1 (by omega)) (fun F4 f4 w4 => ?_)
      refine af_N0 rfl rfl rfl ?_
      try dsimp only
      try simp (disch := omega) only [wTu hJ]
      refine B_X2_play_30 ?_
      try dsimp only
      try simp (disch := omega) only [wTu hJ]
      have hbf := fightZ_B hz1'.1
      have hf98 := fightZ_off hz1'.1.2.1 hz1'.1.2.2.1 (i := 98) (by omega)
      have hp98 := hz1'.2.2.1 98 (by omega)
      have hpz : setN (fightZ (psA w)) (fightZ (psA w) 98).toNat = passZ w := by
        unfold passZ
        rw [hf98, hp98]
      refine L_playS hG hB hRW hbf (fun T hT wT => ?_) 13 0 F4 (by omega) (FO_refl F4 b) w4
      rw [hpz] at wT
      refine B_X2_play_59 ?_
      try dsimp only
      refine ⟨by (refine ⟨?_, ?_⟩ <;> omega), ?_⟩
      refine ih (j + 1) T _ (by omega) ?_ ?_ ?_
      · refine FP_trans hF (fun c hc a1 a2 a3 => ?_)
        rw [hT c (by omega), f4 c (by omega), f3 c (by omega) a1 a2 a3, f2 c (by omega), u2_off _ _ _ (by omega)]
      · rw [show (j + 1).toNat = j.toNat + 1 by omega, hs]
        exact wT
      · rw [show (j + 1).toNat = j.toNat + 1 by omega, hs]
        refine WO_keep (WO_keep o2 (by have := (comeAll_B y0.1 y0.2).2.1; omega) (fun n hn => by rw [FM_oc f3 (by omega) n hn]) (fun i h1 h2 => (mchN_inv (comeAll_B y0.1 y0.2).1 (w 98).toNat (by rw [ec98]; omega)).2.1 i (by omega))) hz1'.2.1.1 (fun n hn => by rw [FO_oc hT, FO_oc f4]) (fun i h1 h2 => ?_)
        unfold passZ
        rw [(setN_inv hbf (w 98).toNat (by omega)).2.1 i (by omega), fightZ_off hz1'.1.2.1 hz1'.1.2.2.1 (by omega)]
        rfl
theorem D_play {G : amG} {I : Nat → Nat → Int} {R : Nat → Nat → Option Nat} {L : Nat → Nat → Int64} {x c t : Nat} {Q : amR → amH → Prop} (hG : amG0 G) {b : Nat} (hB : wb b) (hRW : RW R b) {z : Row} (hW : WV I b z) {u : Int} (hO : WO I b z) (hWF : WF z) (hu : 0 ≤ u ∧ z 316 + u ≤ 1061) (hRA : R 356 0 = some 357) (hRP : RP R 357) (hQ : ∀ J : Nat → Nat → Int, FP I J b → WV J b (passN z u.toNat) → WO J b (passN z u.toNat) → Q (Sum.inl none) (J, R, L, (SH sT), x, 0, 0)) : CT G sX2_play [aR (some 356), aR (some b), aI u] (I, R, L, (SH sT), x, c, t) Q := by
  refine CT_of ok_X2_play hG (Nat.le_of_ble_eq_true rfl) ?_
  show X G mX2_play Q 0 _ [] (I, R, L, (SH sT), x, 0, 0)
  refine B_X2_play_0 ?_
  try dsimp only
  exact L_play hG hB hRW hWF hu hRA hRP hQ (u.toNat + 1) 0 I none (by omega) (FP_refl I b) hW hO
