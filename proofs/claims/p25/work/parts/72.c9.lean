variable {sT : List (Nat × Nat)}
/-! ===== the class: what a war tells ===== -/
def odC (I : Nat → Nat → Int) (b k : Nat) : OD := (I (b + 19 + k) 0, I (b + 19 + k) 1, I (b + 19 + k) 2, I (b + 19 + k) 3)
def oc (I : Nat → Nat → Int) (b n : Nat) : List OD := (List.range n).map (odC I b)
theorem oc_s (I : Nat → Nat → Int) (b n : Nat) : oc I b (n + 1) = oc I b n ++ [odC I b n] := by
  unfold oc
  rw [List.range_succ, List.map_append]
  rfl
theorem oc_len (I : Nat → Nat → Int) (b n : Nat) : (oc I b n).length = n := by
  unfold oc
  rw [List.length_map, List.length_range]
theorem oc_at {I : Nat → Nat → Int} {b n k : Nat} (h : k < n) : (oc I b n)[k]? = some (odC I b k) := by
  unfold oc
  rw [List.getElem?_map, List.getElem?_range h]
  rfl
/-- the orders lie sorted -/
def WO (I : Nat → Nat → Int) (b : Nat) (z : Row) : Prop := oc I b (z 195).toNat = srt (os z (z 195).toNat)
/-- how many go to a troop -/
def cT : List OD → Int → Nat
  | [], _ => 0
  | d :: l, t => if d.2.1 = t then cT l t + 1 else cT l t
theorem cT_c (d : OD) (l : List OD) (t : Int) : cT (d :: l) t = if d.2.1 = t then cT l t + 1 else cT l t := rfl
theorem cT_ins (l : List OD) (x : OD) (t : Int) : cT (insR l x) t = cT l t + (if x.2.1 = t then 1 else 0) := by
  induction l with
  | nil =>
    show cT [x] t = _
    rw [cT_c]
    show (if x.2.1 = t then 0 + 1 else 0) = 0 + _
    split <;> rfl
  | cons d l ih =>
    rw [insR_c]
    split
    · rw [cT_c, cT_c, ih]
      split <;> omega
    · rw [cT_c x, cT_c]
      split <;> split <;> omega
theorem cT_snoc (l : List OD) (x : OD) (t : Int) : cT (l ++ [x]) t = cT l t + (if x.2.1 = t then 1 else 0) := by
  induction l with
  | nil =>
    show cT [x] t = _
    rw [cT_c]
    show (if x.2.1 = t then 0 + 1 else 0) = 0 + _
    split <;> rfl
  | cons d l ih =>
    show cT (d :: (l ++ [x])) t = _
    rw [cT_c, cT_c, ih]
    split <;> omega
theorem srt_cT (t : Int) : ∀ l : List OD, cT (srt l) t = cT l t := srt_all rfl (fun l x h => by rw [srt_snoc, cT_ins, h, cT_snoc])
theorem ofN_cT (z : Row) (t : Int) : ∀ n : Nat, ofN z t n = cT (os z n) t := by
  intro n
  induction n with
  | zero => rfl
  | succ n ih =>
    have e : ofN z t (n + 1) = ofN z t n + (if z (196 + 4 * n + 1) = t then 1 else 0) := rfl
    rw [e, ih, os_s, cT_snoc]
    show _ + _ = (((cT _ _) + (if z (196 + 4 * n + 1) = t then 1 else 0) : Nat) : Int)
    split <;> omega
theorem cT_le (l : List OD) (t : Int) : cT l t ≤ l.length := by
  induction l with
  | nil => exact Nat.le_refl _
  | cons d l ih => rw [cT_c, List.length_cons]; split <;> omega
theorem L_ordersForC {G : amG} {I : Nat → Nat → Int} {R : Nat → Nat → Option Nat} {L : Nat → Nat → Int64} {x : Nat} {Q : amR → amH → Prop} (hG : amG0 G) {b : Nat} (hB : wb b) (hRW : RW R b) {z : Row} (hW : WV I b z) (hb : wfB z) (ho : 0 ≤ z 195 ∧ z 195 ≤ 30) {v : Int} (hQ : Q (Sum.inl (some (aI ((cT (oc I b (z 195).toNat) v : Nat))))) (I, R, L, (SH sT), x, 0, 0)) :
    ∀ (n : Nat) (j a : Int), (0 ≤ j ∧ j ≤ z 195 ∧ z 195 - j < n) → a = (cT (oc I b j.toNat) v : Nat) → X G mX8_ordersFor Q 4 [some (aR (some b)), some (aI v), some (aI a), some (aI j)] [] (I, R, L, (SH sT), x, 0, 0) := by
  intro n
  induction n with
  | zero =>
    intros
    exfalso; omega
  | succ n ih =>
    intro j a h1 ha
    have hn1 := hb.2.1.1
    have hn2 := hb.2.1.2
    have hb1 := wb_le hB
    have hbd := cT_le (oc I b j.toNat) v
    rw [oc_len] at hbd
    have hs : ((cT (oc I b (j.toNat + 1)) v : Nat) : Int) = (cT (oc I b j.toNat) v : Nat) + (if I (b + 19 + j.toNat) 1 = v then 1 else 0) := by
      rw [oc_s, cT_snoc]
      show (((cT _ _) + (if I (b + 19 + j.toNat) 1 = v then 1 else 0) : Nat) : Int) = _
      split <;> omega
    refine B_X8_ordersFor_4 ?_
    try dsimp only
    try simp (disch := omega) only [wN hW, wO hW, wTu hW, wGi hW, wMi hW, wL0 hW, wL1 hW, wG0 hW, wG1 hW, wT hW, wH hW, Int.reduceToNat]
    refine ⟨sw0 hB, ?_⟩
    try simp (disch := omega) only [wN hW, wO hW, wTu hW, wGi hW, wMi hW, wL0 hW, wL1 hW, wG0 hW, wG1 hW, wT hW, wH hW, Int.reduceToNat]
    refine ⟨fun c9_0 => ?_, fun c9_0 => ?_⟩
    · refine B_X8_ordersFor_34 ?_
      try dsimp only
      try simp (disch := omega) only [wN hW, wO hW, wTu hW, wGi hW, wMi hW, wL0 hW, wL1 hW, wG0 hW, wG1 hW, wT hW, wH hW, Int.reduceToNat]
      have e : j.toNat = (z 195).toNat := by omega
      rw [ha, e]
      exact hQ
    · refine ⟨sw0 hB, _, hRW.orr, ?_⟩
      refine ⟨_, _, sw5 hB, ⟨by decide, by decide⟩, ⟨by omega, by omega⟩, _, hRW.o (by omega), ?_⟩
      refine ⟨swO hB (by omega), ?_⟩
      try simp (disch := omega) only [wN hW, wO hW, wTu hW, wGi hW, wMi hW, wL0 hW, wL1 hW, wG0 hW, wG1 hW, wT hW, wH hW, Int.reduceToNat]
      refine ⟨fun c22_0 => ?_, fun c22_0 => ?_⟩
      · refine B_X8_ordersFor_28 ?_
        try dsimp only
        try simp (disch := omega) only [wN hW, wO hW, wTu hW, wGi hW, wMi hW, wL0 hW, wL1 hW, wG0 hW, wG1 hW, wT hW, wH hW, Int.reduceToNat]
        refine ⟨by (refine ⟨?_, ?_⟩ <;> omega), ?_⟩
        refine ih (j + 1) _ (by omega) ?_
        rw [show (j + 1).toNat = j.toNat + 1 by omega, hs]
        first
          | (rw [if_pos (by omega)]; omega)
          | (rw [if_neg (by omega)]; omega)
      · refine ⟨by (refine ⟨?_, ?_⟩ <;> omega), ?_⟩
        refine B_X8_ordersFor_28 ?_
        try dsimp only
        try simp (disch := omega) only [wN hW, wO hW, wTu hW, wGi hW, wMi hW, wL0 hW, wL1 hW, wG0 hW, wG1 hW, wT hW, wH hW, Int.reduceToNat]
        refine ⟨by (refine ⟨?_, ?_⟩ <;> omega), ?_⟩
        refine ih (j + 1) _ (by omega) ?_
        rw [show (j + 1).toNat = j.toNat + 1 by omega, hs]
        first
          | (rw [if_pos (by omega)]; omega)
          | (rw [if_neg (by omega)]; omega)
theorem D_ordersFor {G : amG} {I : Nat → Nat → Int} {R : Nat → Nat → Option Nat} {L : Nat → Nat → Int64} {x c t : Nat} {Q : amR → amH → Prop} (hG : amG0 G) {b : Nat} (hB : wb b) (hRW : RW R b) {z : Row} (hW : WV I b z) (hb : wfB z) (hO : WO I b z) (ho : 0 ≤ z 195 ∧ z 195 ≤ 30) {v : Int} (hQ : Q (Sum.inl (some (aI (ofN z v (z 195).toNat)))) (I, R, L, (SH sT), x, 0, 0)) : CT G sX8_ordersFor [aR (some b), aI v] (I, R, L, (SH sT), x, c, t) Q := by
  refine CT_of ok_X8_ordersFor hG (Nat.le_of_ble_eq_true rfl) ?_
  show X G mX8_ordersFor Q 0 _ [] (I, R, L, (SH sT), x, 0, 0)
  refine B_X8_ordersFor_0 ?_
  try dsimp only
  try simp (disch := omega) only [wN hW, wO hW, wTu hW, wGi hW, wMi hW, wL0 hW, wL1 hW, wG0 hW, wG1 hW, wT hW, wH hW, Int.reduceToNat]
  refine L_ordersForC hG hB hRW hW hb ho ?_ 31 0 0 (by omega) rfl
  have e : ofN z v (z 195).toNat = (cT (oc I b (z 195).toNat) v : Nat) := by
    rw [ofN_cT, ← srt_cT, ← hO]
  rw [← e]
  exact hQ
theorem L_troopsThatAre {G : amG} {I : Nat → Nat → Int} {R : Nat → Nat → Option Nat} {L : Nat → Nat → Int64} {x : Nat} {Q : amR → amH → Prop} (hG : amG0 G) {b : Nat} (hB : wb b) (hRW : RW R b) {z : Row} (hW : WV I b z) (hb : wfB z) {v : Int} (hQ : Q (Sum.inl (some (aI (inN z v (z 98).toNat)))) (I, R, L, (SH sT), x, 0, 0)) :
    ∀ (n : Nat) (j a : Int), (0 ≤ j ∧ j ≤ z 98 ∧ z 98 - j < n) → a = inN z v j.toNat → X G mX8_troopsThatAre Q 4 [some (aR (some b)), some (aI v), some (aI a), some (aI j)] [] (I, R, L, (SH sT), x, 0, 0) := by
  intro n
  induction n with
  | zero =>
    intros
    exfalso; omega
  | succ n ih =>
    intro j a h1 ha
    have hn1 := hb.2.1.1
    have hn2 := hb.2.1.2
    have hb1 := wb_le hB
    have hbd := inN_b z v j.toNat
    have hs : inN z v (j.toNat + 1) = inN z v j.toNat + (if tf z j.toNat 4 = v then 1 else 0) := rfl
    refine B_X8_troopsThatAre_4 ?_
    try dsimp only
    try simp (disch := omega) only [wN hW, wO hW, wTu hW, wGi hW, wMi hW, wL0 hW, wL1 hW, wG0 hW, wG1 hW, wT hW, wH hW, Int.reduceToNat]
    refine ⟨sw0 hB, ?_⟩
    try simp (disch := omega) only [wN hW, wO hW, wTu hW, wGi hW, wMi hW, wL0 hW, wL1 hW, wG0 hW, wG1 hW, wT hW, wH hW, Int.reduceToNat]
    refine ⟨fun c9_0 => ?_, fun c9_0 => ?_⟩
    · refine B_X8_troopsThatAre_34 ?_
      try dsimp only
      try simp (disch := omega) only [wN hW, wO hW, wTu hW, wGi hW, wMi hW, wL0 hW, wL1 hW, wG0 hW, wG1 hW, wT hW, wH hW, Int.reduceToNat]
      have e : j.toNat = (z 98).toNat := by omega
      rw [ha, e]
      exact hQ
    · refine ⟨sw0 hB, _, hRW.tr, ?_⟩
      refine ⟨_, _, sw4 hB, ⟨by decide, by decide⟩, ⟨by omega, by omega⟩, _, hRW.t (by omega), ?_⟩
      refine ⟨swT hB (by omega), ?_⟩
      try simp (disch := omega) only [wN hW, wO hW, wTu hW, wGi hW, wMi hW, wL0 hW, wL1 hW, wG0 hW, wG1 hW, wT hW, wH hW, Int.reduceToNat]
      refine ⟨fun c22_0 => ?_, fun c22_0 => ?_⟩
      · refine B_X8_troopsThatAre_28 ?_
        try dsimp only
        try simp (disch := omega) only [wN hW, wO hW, wTu hW, wGi hW, wMi hW, wL0 hW, wL1 hW, wG0 hW, wG1 hW, wT hW, wH hW, Int.reduceToNat]
        refine ⟨by (refine ⟨?_, ?_⟩ <;> omega), ?_⟩
        refine ih (j + 1) _ (by omega) ?_
        rw [show (j + 1).toNat = j.toNat + 1 by omega, hs]
        first
          | (rw [if_pos (by omega)]; omega)
          | (rw [if_neg (by omega)]; omega)
      · refine ⟨by (refine ⟨?_, ?_⟩ <;> omega), ?_⟩
        refine B_X8_troopsThatAre_28 ?_
        try dsimp only
        try simp (disch := omega) only [wN hW, wO hW, wTu hW, wGi hW, wMi hW, wL0 hW, wL1 hW, wG0 hW, wG1 hW, wT hW, wH hW, Int.reduceToNat]
        refine ⟨by (refine ⟨?_, ?_⟩ <;> omega), ?_⟩
        refine ih (j + 1) _ (by omega) ?_
        rw [show (j + 1).toNat = j.toNat + 1 by omega, hs]
        first
          | (rw [if_pos (by omega)]; omega)
          | (rw [if_neg (by omega)]; omega)
theorem D_troopsThatAre {G : amG} {I : Nat → Nat → Int} {R : Nat → Nat → Option Nat} {L : Nat → Nat → Int64} {x c t : Nat} {Q : amR → amH → Prop} (hG : amG0 G) {b : Nat} (hB : wb b) (hRW : RW R b) {z : Row} (hW : WV I b z) (hb : wfB z) {v : Int} (hQ : Q (Sum.inl (some (aI (inN z v (z 98).toNat)))) (I, R, L, (SH sT), x, 0, 0)) : CT G sX8_troopsThatAre [aR (some b), aI v] (I, R, L, (SH sT), x, c, t) Q := by
  refine CT_of ok_X8_troopsThatAre hG (Nat.le_of_ble_eq_true rfl) ?_
  show X G mX8_troopsThatAre Q 0 _ [] (I, R, L, (SH sT), x, 0, 0)
  have hn1 := hb.2.1.1
  have hn2 := hb.2.1.2
  have hb1 := wb_le hB
  refine B_X8_troopsThatAre_0 ?_
  try dsimp only
  try simp (disch := omega) only [wN hW, wO hW, wTu hW, wGi hW, wMi hW, wL0 hW, wL1 hW, wG0 hW, wG1 hW, wT hW, wH hW, Int.reduceToNat]
  exact L_troopsThatAre hG hB hRW hW hb hQ 13 0 0 (by omega) rfl
theorem L_strengthOfC {G : amG} {I : Nat → Nat → Int} {R : Nat → Nat → Option Nat} {L : Nat → Nat → Int64} {x : Nat} {Q : amR → amH → Prop} (hG : amG0 G) {b : Nat} (hB : wb b) (hRW : RW R b) {z : Row} (hW : WV I b z) (hb : wfB z) {v : Int} (hQ : Q (Sum.inl (some (aI (stN z v (z 98).toNat)))) (I, R, L, (SH sT), x, 0, 0)) :
    ∀ (n : Nat) (j a : Int), (0 ≤ j ∧ j ≤ z 98 ∧ z 98 - j < n) → a = stN z v j.toNat → X G mX8_strengthOf Q 4 [some (aR (some b)), some (aI v), some (aI a), some (aI j)] [] (I, R, L, (SH sT), x, 0, 0) := by
  intro n
  induction n with
  | zero =>
    intros
    exfalso; omega
  | succ n ih =>
    intro j a h1 ha
    have hn1 := hb.2.1.1
    have hn2 := hb.2.1.2
    have hb1 := wb_le hB
    have hbd := stN_b hb.2.2.1 v j.toNat (by omega)
    have hT : j < z 98 → 0 ≤ tf z j.toNat 2 ∧ tf z j.toNat 2 ≤ 20 := fun q => (hb.2.2.1 j.toNat (by omega)).2.2.1
    have hs : stN z v (j.toNat + 1) = stN z v j.toNat + (if tf z j.toNat 0 = v then tf z j.toNat 2 else 0) := rfl
    refine B_X8_strengthOf_4 ?_
    try dsimp only
    try simp (disch := omega) only [wN hW, wO hW, wTu hW, wGi hW, wMi hW, wL0 hW, wL1 hW, wG0 hW, wG1 hW, wT hW, wH hW, Int.reduceToNat]
    refine ⟨sw0 hB, ?_⟩
    try simp (disch := omega) only [wN hW, wO hW, wTu hW, wGi hW, wMi hW, wL0 hW, wL1 hW, wG0 hW, wG1 hW, wT hW, wH hW, Int.reduceToNat]
    refine ⟨fun c9_0 => ?_, fun c9_0 => ?_⟩
    · refine B_X8_strengthOf_43 ?_
      try dsimp only
      try simp (disch := omega) only [wN hW, wO hW, wTu hW, wGi hW, wMi hW, wL0 hW, wL1 hW, wG0 hW, wG1 hW, wT hW, wH hW, Int.reduceToNat]
      have e : j.toNat = (z 98).toNat := by omega
      rw [ha, e]
      exact hQ
    · refine ⟨sw0 hB, _, hRW.tr, ?_⟩
      refine ⟨_, _, sw4 hB, ⟨by decide, by decide⟩, ⟨by omega, by omega⟩, _, hRW.t (by omega), ?_⟩
      refine ⟨swT hB (by omega), ?_⟩
      try simp (disch := omega) only [wN hW, wO hW, wTu hW, wGi hW, wMi hW, wL0 hW, wL1 hW, wG0 hW, wG1 hW, wT hW, wH hW, Int.reduceToNat]
      refine ⟨fun c22_0 => ?_, fun c22_0 => ?_⟩
      · refine B_X8_strengthOf_37 ?_
        try dsimp only
        try simp (disch := omega) only [wN hW, wO hW, wTu hW, wGi hW, wMi hW, wL0 hW, wL1 hW, wG0 hW, wG1 hW, wT hW, wH hW, Int.reduceToNat]
        refine ⟨by (refine ⟨?_, ?_⟩ <;> omega), ?_⟩
        refine ih (j + 1) _ (by omega) ?_
        rw [show (j + 1).toNat = j.toNat + 1 by omega, hs]
        first
          | (rw [if_pos (by omega)]; omega)
          | (rw [if_neg (by omega)]; omega)
      · refine ⟨sw0 hB, _, hRW.tr, ?_⟩
        refine ⟨_, _, sw4 hB, ⟨by decide, by decide⟩, ⟨by omega, by omega⟩, _, hRW.t (by omega), ?_⟩
        refine ⟨swT hB (by omega), ?_⟩
        try simp (disch := omega) only [wN hW, wO hW, wTu hW, wGi hW, wMi hW, wL0 hW, wL1 hW, wG0 hW, wG1 hW, wT hW, wH hW, Int.reduceToNat]
        refine ⟨by (refine ⟨?_, ?_⟩ <;> omega), ?_⟩
        refine B_X8_strengthOf_37 ?_
        try dsimp only
        try simp (disch := omega) only [wN hW, wO hW, wTu hW, wGi hW, wMi hW, wL0 hW, wL1 hW, wG0 hW, wG1 hW, wT hW, wH hW, Int.reduceToNat]
        refine ⟨by (refine ⟨?_, ?_⟩ <;> omega), ?_⟩
        refine ih (j + 1) _ (by omega) ?_
        rw [show (j + 1).toNat = j.toNat + 1 by omega, hs]
        first
          | (rw [if_pos (by omega)]; omega)
          | (rw [if_neg (by omega)]; omega)
theorem D_strengthOf {G : amG} {I : Nat → Nat → Int} {R : Nat → Nat → Option Nat} {L : Nat → Nat → Int64} {x c t : Nat} {Q : amR → amH → Prop} (hG : amG0 G) {b : Nat} (hB : wb b) (hRW : RW R b) {z : Row} (hW : WV I b z) (hb : wfB z) {v : Int} (hQ : Q (Sum.inl (some (aI (stN z v (z 98).toNat)))) (I, R, L, (SH sT), x, 0, 0)) : CT G sX8_strengthOf [aR (some b), aI v] (I, R, L, (SH sT), x, c, t) Q := by
  refine CT_of ok_X8_strengthOf hG (Nat.le_of_ble_eq_true rfl) ?_
  show X G mX8_strengthOf Q 0 _ [] (I, R, L, (SH sT), x, 0, 0)
  have hn1 := hb.2.1.1
  have hn2 := hb.2.1.2
  have hb1 := wb_le hB
  refine B_X8_strengthOf_0 ?_
  try dsimp only
  try simp (disch := omega) only [wN hW, wO hW, wTu hW, wGi hW, wMi hW, wL0 hW, wL1 hW, wG0 hW, wG1 hW, wT hW, wH hW, Int.reduceToNat]
  exact L_strengthOfC hG hB hRW hW hb hQ 13 0 0 (by omega) rfl
theorem D_cellFigure {G : amG} {I : Nat → Nat → Int} {R : Nat → Nat → Option Nat} {L : Nat → Nat → Int64} {x c t : Nat} {Q : amR → amH → Prop} (hG : amG0 G) {b : Nat} (hB : wb b) (hRW : RW R b) {z : Row} (hW : WV I b z) (hb : wfB z) {v w : Int} (hc : isC v) (hw : 0 ≤ w ∧ w ≤ 3) (hQ : Q (Sum.inl (some (aI (ceN z v w)))) (I, R, L, (SH sT), x, 0, 0)) : CT G sX8_cellFigure [aR (some b), aI v, aI w] (I, R, L, (SH sT), x, c, t) Q := by
  refine CT_of ok_X8_cellFigure hG (Nat.le_of_ble_eq_true rfl) ?_
  show X G mX8_cellFigure Q 0 _ [] (I, R, L, (SH sT), x, 0, 0)
  have hn1 := hb.2.1.1
  have hn2 := hb.2.1.2
  have hb1 := wb_le hB
  have hc' : 0 ≤ v ∧ v < 96 := hc
  refine B_X8_cellFigure_0 ?_
  try dsimp only
  try simp (disch := omega) only [wN hW, wO hW, wTu hW, wGi hW, wMi hW, wL0 hW, wL1 hW, wG0 hW, wG1 hW, wT hW, wH hW, Int.reduceToNat]
  refine ⟨fun c1_0 => ?_, fun c1_0 => ?_, fun c1_0 => ?_, fun c1_0 => ?_, trivial⟩
  · refine B_X8_cellFigure_53 ?_
    try dsimp only
    try simp (disch := omega) only [wN hW, wO hW, wTu hW, wGi hW, wMi hW, wL0 hW, wL1 hW, wG0 hW, wG1 hW, wT hW, wH hW, Int.reduceToNat]
    refine ⟨sw0 hB, _, hRW.te, ?_⟩
    refine ⟨⟨Nat.zero_le _, Nat.zero_le _, Nat.le_of_ble_eq_true rfl⟩, sw1 hB, ?_⟩
    refine D_cellsInSight hG hB hRW (wH hW) hb.1 hc (fun r hr => ?_)
    refine af_I0 rfl rfl (by decide) ?_
    try dsimp only
    try simp (disch := omega) only [wN hW, wO hW, wTu hW, wGi hW, wMi hW, wL0 hW, wL1 hW, wG0 hW, wG1 hW, wT hW, wH hW, Int.reduceToNat]
    refine B_X8_cellFigure_61 ?_
    try dsimp only
    try simp (disch := omega) only [wN hW, wO hW, wTu hW, wGi hW, wMi hW, wL0 hW, wL1 hW, wG0 hW, wG1 hW, wT hW, wH hW, Int.reduceToNat]
    unfold ceN at hQ
    first
      | (rw [if_pos (by omega)] at hQ; exact hQ)
      | (rw [if_neg (by omega), if_pos (by omega)] at hQ; exact hQ)
      | (rw [if_neg (by omega), if_neg (by omega), if_pos (by omega)] at hQ; rw [hr]; exact hQ)
      | (rw [if_neg (by omega), if_neg (by omega), if_neg (by omega)] at hQ; rw [hr]; exact hQ)
  · refine B_X8_cellFigure_28 ?_
    try dsimp only
    try simp (disch := omega) only [wN hW, wO hW, wTu hW, wGi hW, wMi hW, wL0 hW, wL1 hW, wG0 hW, wG1 hW, wT hW, wH hW, Int.reduceToNat]
    refine ⟨sw0 hB, _, hRW.te, ?_⟩
    refine ⟨sw1 hB, _, hRW.ht, ?_⟩
    refine ⟨_, sw2 hB, ⟨by omega, by omega⟩, ?_⟩
    try simp (disch := omega) only [wN hW, wO hW, wTu hW, wGi hW, wMi hW, wL0 hW, wL1 hW, wG0 hW, wG1 hW, wT hW, wH hW, Int.reduceToNat]
    unfold ceN at hQ
    first
      | (rw [if_pos (by omega)] at hQ; exact hQ)
      | (rw [if_neg (by omega), if_pos (by omega)] at hQ; exact hQ)
      | (rw [if_neg (by omega), if_neg (by omega), if_pos (by omega)] at hQ; rw [hr]; exact hQ)
      | (rw [if_neg (by omega), if_neg (by omega), if_neg (by omega)] at hQ; rw [hr]; exact hQ)
  · refine B_X8_cellFigure_38 ?_
    try dsimp only
    try simp (disch := omega) only [wN hW, wO hW, wTu hW, wGi hW, wMi hW, wL0 hW, wL1 hW, wG0 hW, wG1 hW, wT hW, wH hW, Int.reduceToNat]
    refine ⟨⟨Nat.zero_le _, Nat.zero_le _, Nat.le_of_ble_eq_true rfl⟩, sw0 hB, ?_⟩
    refine D_troopIn hG hB hRW hW hb ?_
    refine af_I0 rfl rfl (by decide) ?_
    try dsimp only
    try simp (disch := omega) only [wN hW, wO hW, wTu hW, wGi hW, wMi hW, wL0 hW, wL1 hW, wG0 hW, wG1 hW, wT hW, wH hW, Int.reduceToNat]
    refine B_X8_cellFigure_43 ?_
    try dsimp only
    try simp (disch := omega) only [wN hW, wO hW, wTu hW, wGi hW, wMi hW, wL0 hW, wL1 hW, wG0 hW, wG1 hW, wT hW, wH hW, Int.reduceToNat]
    unfold ceN at hQ
    first
      | (rw [if_pos (by omega)] at hQ; exact hQ)
      | (rw [if_neg (by omega), if_pos (by omega)] at hQ; exact hQ)
      | (rw [if_neg (by omega), if_neg (by omega), if_pos (by omega)] at hQ; rw [hr]; exact hQ)
      | (rw [if_neg (by omega), if_neg (by omega), if_neg (by omega)] at hQ; rw [hr]; exact hQ)
  · refine B_X8_cellFigure_44 ?_
    try dsimp only
    try simp (disch := omega) only [wN hW, wO hW, wTu hW, wGi hW, wMi hW, wL0 hW, wL1 hW, wG0 hW, wG1 hW, wT hW, wH hW, Int.reduceToNat]
    refine ⟨sw0 hB, _, hRW.te, ?_⟩
    refine ⟨⟨Nat.zero_le _, Nat.zero_le _, Nat.le_of_ble_eq_true rfl⟩, sw1 hB, ?_⟩
    refine D_exits hG hB hRW (wH hW) hb.1 hc (fun r hr => ?_)
    refine af_I0 rfl rfl (by decide) ?_
    try dsimp only
    try simp (disch := omega) only [wN hW, wO hW, wTu hW, wGi hW, wMi hW, wL0 hW, wL1 hW, wG0 hW, wG1 hW, wT hW, wH hW, Int.reduceToNat]
    refine B_X8_cellFigure_52 ?_
    try dsimp only
    try simp (disch := omega) only [wN hW, wO hW, wTu hW, wGi hW, wMi hW, wL0 hW, wL1 hW, wG0 hW, wG1 hW, wT hW, wH hW, Int.reduceToNat]
    unfold ceN at hQ
    first
      | (rw [if_pos (by omega)] at hQ; exact hQ)
      | (rw [if_neg (by omega), if_pos (by omega)] at hQ; exact hQ)
      | (rw [if_neg (by omega), if_neg (by omega), if_pos (by omega)] at hQ; rw [hr]; exact hQ)
      | (rw [if_neg (by omega), if_neg (by omega), if_neg (by omega)] at hQ; rw [hr]; exact hQ)
theorem D_troopFigure {G : amG} {I : Nat → Nat → Int} {R : Nat → Nat → Option Nat} {L : Nat → Nat → Int64} {x c t : Nat} {Q : amR → amH → Prop} (hG : amG0 G) {b : Nat} (hB : wb b) (hRW : RW R b) {z : Row} (hW : WV I b z) (hb : wfB z) (hO : WO I b z) (ho : 0 ≤ z 195 ∧ z 195 ≤ 30) {k : Int} (hk : 0 ≤ k ∧ k < z 98) {w : Int} (hw : 0 ≤ w ∧ w ≤ 8) (hQ : Q (Sum.inl (some (aI (trN z k.toNat w)))) (I, R, L, (SH sT), x, 0, 0)) : CT G sX8_troopFigure [aR (some b), aI k, aI w] (I, R, L, (SH sT), x, c, t) Q := by
  refine CT_of ok_X8_troopFigure hG (Nat.le_of_ble_eq_true rfl) ?_
  show X G mX8_troopFigure Q 0 _ [] (I, R, L, (SH sT), x, 0, 0)
  have hn1 := hb.2.1.1
  have hn2 := hb.2.1.2
  have hb1 := wb_le hB
  refine B_X8_troopFigure_0 ?_
  try dsimp only
  try simp (disch := omega) only [wN hW, wO hW, wTu hW, wGi hW, wMi hW, wL0 hW, wL1 hW, wG0 hW, wG1 hW, wT hW, wH hW, Int.reduceToNat]
  refine ⟨sw0 hB, _, hRW.tr, ?_⟩
  refine ⟨_, _, sw4 hB, ⟨by decide, by decide⟩, ⟨by omega, by omega⟩, _, hRW.t (by omega), ?_⟩
  refine ⟨fun c8_0 => ?_, fun c8_0 => ?_, fun c8_0 => ?_, fun c8_0 => ?_, fun c8_0 => ?_, fun c8_0 => ?_, fun c8_0 => ?_, fun c8_0 => ?_, fun c8_0 => ?_, trivial⟩
  · refine B_X8_troopFigure_97 ?_
    try dsimp only
    try simp (disch := omega) only [wN hW, wO hW, wTu hW, wGi hW, wMi hW, wL0 hW, wL1 hW, wG0 hW, wG1 hW, wT hW, wH hW, Int.reduceToNat]
    refine ⟨swT hB (by omega), ?_⟩
    try simp (disch := omega) only [wN hW, wO hW, wTu hW, wGi hW, wMi hW, wL0 hW, wL1 hW, wG0 hW, wG1 hW, wT hW, wH hW, Int.reduceToNat]
    unfold trN at hQ
    first
      | (rw [if_pos (by omega), show ((k.toNat : Nat) : Int) = k by omega] at hQ; exact hQ)
      | (rw [if_neg (by omega), if_pos (by omega)] at hQ; exact hQ)
      | (rw [if_neg (by omega), if_neg (by omega), show w.toNat = 0 by omega] at hQ; exact hQ)
      | (rw [if_neg (by omega), if_neg (by omega), show w.toNat = 1 by omega] at hQ; exact hQ)
      | (rw [if_neg (by omega), if_neg (by omega), show w.toNat = 2 by omega] at hQ; exact hQ)
      | (rw [if_neg (by omega), if_neg (by omega), show w.toNat = 3 by omega] at hQ; exact hQ)
      | (rw [if_neg (by omega), if_neg (by omega), show w.toNat = 4 by omega] at hQ; exact hQ)
      | (rw [if_neg (by omega), if_neg (by omega), show w.toNat = 5 by omega] at hQ; exact hQ)
      | (rw [if_neg (by omega), if_neg (by omega), show w.toNat = 6 by omega] at hQ; exact hQ)
  · refine B_X8_troopFigure_56 ?_
    try dsimp only
    try simp (disch := omega) only [wN hW, wO hW, wTu hW, wGi hW, wMi hW, wL0 hW, wL1 hW, wG0 hW, wG1 hW, wT hW, wH hW, Int.reduceToNat]
    refine ⟨swT hB (by omega), ?_⟩
    try simp (disch := omega) only [wN hW, wO hW, wTu hW, wGi hW, wMi hW, wL0 hW, wL1 hW, wG0 hW, wG1 hW, wT hW, wH hW, Int.reduceToNat]
    unfold trN at hQ
    first
      | (rw [if_pos (by omega), show ((k.toNat : Nat) : Int) = k by omega] at hQ; exact hQ)
      | (rw [if_neg (by omega), if_pos (by omega)] at hQ; exact hQ)
      | (rw [if_neg (by omega), if_neg (by omega), show w.toNat = 0 by omega] at hQ; exact hQ)
      | (rw [if_neg (by omega), if_neg (by omega), show w.toNat = 1 by omega] at hQ; exact hQ)
      | (rw [if_neg (by omega), if_neg (by omega), show w.toNat = 2 by omega] at hQ; exact hQ)
      | (rw [if_neg (by omega), if_neg (by omega), show w.toNat = 3 by omega] at hQ; exact hQ)
      | (rw [if_neg (by omega), if_neg (by omega), show w.toNat = 4 by omega] at hQ; exact hQ)
      | (rw [if_neg (by omega), if_neg (by omega), show w.toNat = 5 by omega] at hQ; exact hQ)
      | (rw [if_neg (by omega), if_neg (by omega), show w.toNat = 6 by omega] at hQ; exact hQ)
  · refine B_X8_troopFigure_61 ?_
    try dsimp only
    try simp (disch := omega) only [wN hW, wO hW, wTu hW, wGi hW, wMi hW, wL0 hW, wL1 hW, wG0 hW, wG1 hW, wT hW, wH hW, Int.reduceToNat]
    refine ⟨swT hB (by omega), ?_⟩
    try simp (disch := omega) only [wN hW, wO hW, wTu hW, wGi hW, wMi hW, wL0 hW, wL1 hW, wG0 hW, wG1 hW, wT hW, wH hW, Int.reduceToNat]
    unfold trN at hQ
    first
      | (rw [if_pos (by omega), show ((k.toNat : Nat) : Int) = k by omega] at hQ; exact hQ)
      | (rw [if_neg (by omega), if_pos (by omega)] at hQ; exact hQ)
      | (rw [if_neg (by omega), if_neg (by omega), show w.toNat = 0 by omega] at hQ; exact hQ)
      | (rw [if_neg (by omega), if_neg (by omega), show w.toNat = 1 by omega] at hQ; exact hQ)
      | (rw [if_neg (by omega), if_neg (by omega), show w.toNat = 2 by omega] at hQ; exact hQ)
      | (rw [if_neg (by omega), if_neg (by omega), show w.toNat = 3 by omega] at hQ; exact hQ)
      | (rw [if_neg (by omega), if_neg (by omega), show w.toNat = 4 by omega] at hQ; exact hQ)
      | (rw [if_neg (by omega), if_neg (by omega), show w.toNat = 5 by omega] at hQ; exact hQ)
      | (rw [if_neg (by omega), if_neg (by omega), show w.toNat = 6 by omega] at hQ; exact hQ)
  · refine B_X8_troopFigure_66 ?_
    try dsimp only
    try simp (disch := omega) only [wN hW, wO hW, wTu hW, wGi hW, wMi hW, wL0 hW, wL1 hW, wG0 hW, wG1 hW, wT hW, wH hW, Int.reduceToNat]
    refine ⟨swT hB (by omega), ?_⟩
    try simp (disch := omega) only [wN hW, wO hW, wTu hW, wGi hW, wMi hW, wL0 hW, wL1 hW, wG0 hW, wG1 hW, wT hW, wH hW, Int.reduceToNat]
    unfold trN at hQ
    first
      | (rw [if_pos (by omega), show ((k.toNat : Nat) : Int) = k by omega] at hQ; exact hQ)
      | (rw [if_neg (by omega), if_pos (by omega)] at hQ; exact hQ)
      | (rw [if_neg (by omega), if_neg (by omega), show w.toNat = 0 by omega] at hQ; exact hQ)
      | (rw [if_neg (by omega), if_neg (by omega), show w.toNat = 1 by omega] at hQ; exact hQ)
      | (rw [if_neg (by omega), if_neg (by omega), show w.toNat = 2 by omega] at hQ; exact hQ)
      | (rw [if_neg (by omega), if_neg (by omega), show w.toNat = 3 by omega] at hQ; exact hQ)
      | (rw [if_neg (by omega), if_neg (by omega), show w.toNat = 4 by omega] at hQ; exact hQ)
      | (rw [if_neg (by omega), if_neg (by omega), show w.toNat = 5 by omega] at hQ; exact hQ)
      | (rw [if_neg (by omega), if_neg (by omega), show w.toNat = 6 by omega] at hQ; exact hQ)
  · refine B_X8_troopFigure_71 ?_
    try dsimp only
    try simp (disch := omega) only [wN hW, wO hW, wTu hW, wGi hW, wMi hW, wL0 hW, wL1 hW, wG0 hW, wG1 hW, wT hW, wH hW, Int.reduceToNat]
    refine ⟨swT hB (by omega), ?_⟩
    try simp (disch := omega) only [wN hW, wO hW, wTu hW, wGi hW, wMi hW, wL0 hW, wL1 hW, wG0 hW, wG1 hW, wT hW, wH hW, Int.reduceToNat]
    unfold trN at hQ
    first
      | (rw [if_pos (by omega), show ((k.toNat : Nat) : Int) = k by omega] at hQ; exact hQ)
      | (rw [if_neg (by omega), if_pos (by omega)] at hQ; exact hQ)
      | (rw [if_neg (by omega), if_neg (by omega), show w.toNat = 0 by omega] at hQ; exact hQ)
      | (rw [if_neg (by omega), if_neg (by omega), show w.toNat = 1 by omega] at hQ; exact hQ)
      | (rw [if_neg (by omega), if_neg (by omega), show w.toNat = 2 by omega] at hQ; exact hQ)
      | (rw [if_neg (by omega), if_neg (by omega), show w.toNat = 3 by omega] at hQ; exact hQ)
      | (rw [if_neg (by omega), if_neg (by omega), show w.toNat = 4 by omega] at hQ; exact hQ)
      | (rw [if_neg (by omega), if_neg (by omega), show w.toNat = 5 by omega] at hQ; exact hQ)
      | (rw [if_neg (by omega), if_neg (by omega), show w.toNat = 6 by omega] at hQ; exact hQ)
  · refine B_X8_troopFigure_76 ?_
    try dsimp only
    try simp (disch := omega) only [wN hW, wO hW, wTu hW, wGi hW, wMi hW, wL0 hW, wL1 hW, wG0 hW, wG1 hW, wT hW, wH hW, Int.reduceToNat]
    refine ⟨swT hB (by omega), ?_⟩
    try simp (disch := omega) only [wN hW, wO hW, wTu hW, wGi hW, wMi hW, wL0 hW, wL1 hW, wG0 hW, wG1 hW, wT hW, wH hW, Int.reduceToNat]
    unfold trN at hQ
    first
      | (rw [if_pos (by omega), show ((k.toNat : Nat) : Int) = k by omega] at hQ; exact hQ)
      | (rw [if_neg (by omega), if_pos (by omega)] at hQ; exact hQ)
      | (rw [if_neg (by omega), if_neg (by omega), show w.toNat = 0 by omega] at hQ; exact hQ)
      | (rw [if_neg (by omega), if_neg (by omega), show w.toNat = 1 by omega] at hQ; exact hQ)
      | (rw [if_neg (by omega), if_neg (by omega), show w.toNat = 2 by omega] at hQ; exact hQ)
      | (rw [if_neg (by omega), if_neg (by omega), show w.toNat = 3 by omega] at hQ; exact hQ)
      | (rw [if_neg (by omega), if_neg (by omega), show w.toNat = 4 by omega] at hQ; exact hQ)
      | (rw [if_neg (by omega), if_neg (by omega), show w.toNat = 5 by omega] at hQ; exact hQ)
      | (rw [if_neg (by omega), if_neg (by omega), show w.toNat = 6 by omega] at hQ; exact hQ)
  · refine B_X8_troopFigure_81 ?_
    try dsimp only
    try simp (disch := omega) only [wN hW, wO hW, wTu hW, wGi hW, wMi hW, wL0 hW, wL1 hW, wG0 hW, wG1 hW, wT hW, wH hW, Int.reduceToNat]
    refine ⟨swT hB (by omega), ?_⟩
    try simp (disch := omega) only [wN hW, wO hW, wTu hW, wGi hW, wMi hW, wL0 hW, wL1 hW, wG0 hW, wG1 hW, wT hW, wH hW, Int.reduceToNat]
    unfold trN at hQ
    first
      | (rw [if_pos (by omega), show ((k.toNat : Nat) : Int) = k by omega] at hQ; exact hQ)
      | (rw [if_neg (by omega), if_pos (by omega)] at hQ; exact hQ)
      | (rw [if_neg (by omega), if_neg (by omega), show w.toNat = 0 by omega] at hQ; exact hQ)
      | (rw [if_neg (by omega), if_neg (by omega), show w.toNat = 1 by omega] at hQ; exact hQ)
      | (rw [if_neg (by omega), if_neg (by omega), show w.toNat = 2 by omega] at hQ; exact hQ)
      | (rw [if_neg (by omega), if_neg (by omega), show w.toNat = 3 by omega] at hQ; exact hQ)
      | (rw [if_neg (by omega), if_neg (by omega), show w.toNat = 4 by omega] at hQ; exact hQ)
      | (rw [if_neg (by omega), if_neg (by omega), show w.toNat = 5 by omega] at hQ; exact hQ)
      | (rw [if_neg (by omega), if_neg (by omega), show w.toNat = 6 by omega] at hQ; exact hQ)
  · refine B_X8_troopFigure_86 ?_
    try dsimp only
    try simp (disch := omega) only [wN hW, wO hW, wTu hW, wGi hW, wMi hW, wL0 hW, wL1 hW, wG0 hW, wG1 hW, wT hW, wH hW, Int.reduceToNat]
    refine ⟨swT hB (by omega), ?_⟩
    try simp (disch := omega) only [wN hW, wO hW, wTu hW, wGi hW, wMi hW, wL0 hW, wL1 hW, wG0 hW, wG1 hW, wT hW, wH hW, Int.reduceToNat]
    unfold trN at hQ
    first
      | (rw [if_pos (by omega), show ((k.toNat : Nat) : Int) = k by omega] at hQ; exact hQ)
      | (rw [if_neg (by omega), if_pos (by omega)] at hQ; exact hQ)
      | (rw [if_neg (by omega), if_neg (by omega), show w.toNat = 0 by omega] at hQ; exact hQ)
      | (rw [if_neg (by omega), if_neg (by omega), show w.toNat = 1 by omega] at hQ; exact hQ)
      | (rw [if_neg (by omega), if_neg (by omega), show w.toNat = 2 by omega] at hQ; exact hQ)
      | (rw [if_neg (by omega), if_neg (by omega), show w.toNat = 3 by omega] at hQ; exact hQ)
      | (rw [if_neg (by omega), if_neg (by omega), show w.toNat = 4 by omega] at hQ; exact hQ)
      | (rw [if_neg (by omega), if_neg (by omega), show w.toNat = 5 by omega] at hQ; exact hQ)
      | (rw [if_neg (by omega), if_neg (by omega), show w.toNat = 6 by omega] at hQ; exact hQ)
  · refine B_X8_troopFigure_91 ?_
    try dsimp only
    try simp (disch := omega) only [wN hW, wO hW, wTu hW, wGi hW, wMi hW, wL0 hW, wL1 hW, wG0 hW, wG1 hW, wT hW, wH hW, Int.reduceToNat]
    refine ⟨⟨Nat.zero_le _, Nat.zero_le _, Nat.le_of_ble_eq_true rfl⟩, sw0 hB, ?_⟩
    refine D_ordersFor hG hB hRW hW hb hO ho ?_
    refine af_I0 rfl rfl (by decide) ?_
    try dsimp only
    try simp (disch := omega) only [wN hW, wO hW, wTu hW, wGi hW, wMi hW, wL0 hW, wL1 hW, wG0 hW, wG1 hW, wT hW, wH hW, Int.reduceToNat]
    refine B_X8_troopFigure_96 ?_
    try dsimp only
    try simp (disch := omega) only [wN hW, wO hW, wTu hW, wGi hW, wMi hW, wL0 hW, wL1 hW, wG0 hW, wG1 hW, wT hW, wH hW, Int.reduceToNat]
    unfold trN at hQ
    first
      | (rw [if_pos (by omega), show ((k.toNat : Nat) : Int) = k by omega] at hQ; exact hQ)
      | (rw [if_neg (by omega), if_pos (by omega)] at hQ; exact hQ)
      | (rw [if_neg (by omega), if_neg (by omega), show w.toNat = 0 by omega] at hQ; exact hQ)
      | (rw [if_neg (by omega), if_neg (by omega), show w.toNat = 1 by omega] at hQ; exact hQ)
      | (rw [if_neg (by omega), if_neg (by omega), show w.toNat = 2 by omega] at hQ; exact hQ)
      | (rw [if_neg (by omega), if_neg (by omega), show w.toNat = 3 by omega] at hQ; exact hQ)
      | (rw [if_neg (by omega), if_neg (by omega), show w.toNat = 4 by omega] at hQ; exact hQ)
      | (rw [if_neg (by omega), if_neg (by omega), show w.toNat = 5 by omega] at hQ; exact hQ)
      | (rw [if_neg (by omega), if_neg (by omega), show w.toNat = 6 by omega] at hQ; exact hQ)
theorem D_figure {G : amG} {I : Nat → Nat → Int} {R : Nat → Nat → Option Nat} {L : Nat → Nat → Int64} {x c t : Nat} {Q : amR → amH → Prop} (hG : amG0 G) {b : Nat} (hB : wb b) (hRW : RW R b) {z : Row} (hW : WV I b z) (hb : wfB z) {w : Int} (hw : 0 ≤ w ∧ w ≤ 12) (hQ : Q (Sum.inl (some (aI (cntZ z w)))) (I, R, L, (SH sT), x, 0, 0)) : CT G sX8_figure [aR (some b), aI w] (I, R, L, (SH sT), x, c, t) Q := by
  refine CT_of ok_X8_figure hG (Nat.le_of_ble_eq_true rfl) ?_
  show X G mX8_figure Q 0 _ [] (I, R, L, (SH sT), x, 0, 0)
  have hn1 := hb.2.1.1
  have hn2 := hb.2.1.2
  have hb1 := wb_le hB
  have hib := inN_b z 2 (z 98).toNat
  refine B_X8_figure_0 ?_
  try dsimp only
  try simp (disch := omega) only [wN hW, wO hW, wTu hW, wGi hW, wMi hW, wL0 hW, wL1 hW, wG0 hW, wG1 hW, wT hW, wH hW, Int.reduceToNat]
  refine ⟨fun c1_0 => ?_, fun c1_0 => ?_, fun c1_0 => ?_, fun c1_0 => ?_, fun c1_0 => ?_, fun c1_0 => ?_, fun c1_0 => ?_, fun c1_0 => ?_, fun c1_0 => ?_, fun c1_0 => ?_, fun c1_0 => ?_, fun c1_0 => ?_, fun c1_0 => ?_, trivial⟩
  · refine B_X8_figure_139 ?_
    try dsimp only
    try simp (disch := omega) only [wN hW, wO hW, wTu hW, wGi hW, wMi hW, wL0 hW, wL1 hW, wG0 hW, wG1 hW, wT hW, wH hW, Int.reduceToNat]
    refine ⟨sw0 hB, _, hRW.ge, ?_⟩
    refine ⟨_, sw3 hB, ⟨by omega, by omega⟩, ?_⟩
    try simp (disch := omega) only [wN hW, wO hW, wTu hW, wGi hW, wMi hW, wL0 hW, wL1 hW, wG0 hW, wG1 hW, wT hW, wH hW, Int.reduceToNat]
    unfold cntZ at hQ
    first
      | (rw [if_pos (by omega)] at hQ; exact hQ)
      | (rw [if_neg (by omega), if_pos (by omega)] at hQ; exact hQ)
      | (rw [if_neg (by omega), if_neg (by omega), if_pos (by omega)] at hQ; exact hQ)
      | (rw [if_neg (by omega), if_neg (by omega), if_neg (by omega), if_pos (by omega)] at hQ; exact hQ)
      | (rw [if_neg (by omega), if_neg (by omega), if_neg (by omega), if_neg (by omega), if_pos (by omega)] at hQ; exact hQ)
      | (rw [if_neg (by omega), if_neg (by omega), if_neg (by omega), if_neg (by omega), if_neg (by omega), if_pos (by omega)] at hQ; exact hQ)
      | (rw [if_neg (by omega), if_neg (by omega), if_neg (by omega), if_neg (by omega), if_neg (by omega), if_neg (by omega), if_pos (by omega)] at hQ; exact hQ)
      | (rw [if_neg (by omega), if_neg (by omega), if_neg (by omega), if_neg (by omega), if_neg (by omega), if_neg (by omega), if_neg (by omega), if_pos (by omega)] at hQ; exact hQ)
      | (rw [if_neg (by omega), if_neg (by omega), if_neg (by omega), if_neg (by omega), if_neg (by omega), if_neg (by omega), if_neg (by omega), if_neg (by omega), if_pos (by omega)] at hQ; exact hQ)
      | (rw [if_neg (by omega), if_neg (by omega), if_neg (by omega), if_neg (by omega), if_neg (by omega), if_neg (by omega), if_neg (by omega), if_neg (by omega), if_neg (by omega), if_pos (by omega)] at hQ; exact hQ)
      | (rw [if_neg (by omega), if_neg (by omega), if_neg (by omega), if_neg (by omega), if_neg (by omega), if_neg (by omega), if_neg (by omega), if_neg (by omega), if_neg (by omega), if_neg (by omega), if_pos (by omega)] at hQ; exact hQ)
      | (rw [if_neg (by omega), if_neg (by omega), if_neg (by omega), if_neg (by omega), if_neg (by omega), if_neg (by omega), if_neg (by omega), if_neg (by omega), if_neg (by omega), if_neg (by omega), if_neg (by omega), if_pos (by omega)] at hQ; exact hQ)
      | (rw [if_neg (by omega), if_neg (by omega), if_neg (by omega), if_neg (by omega), if_neg (by omega), if_neg (by omega), if_neg (by omega), if_neg (by omega), if_neg (by omega), if_neg (by omega), if_neg (by omega), if_neg (by omega)] at hQ; exact hQ)
  · refine B_X8_figure_64 ?_
    try dsimp only
    try simp (disch := omega) only [wN hW, wO hW, wTu hW, wGi hW, wMi hW, wL0 hW, wL1 hW, wG0 hW, wG1 hW, wT hW, wH hW, Int.reduceToNat]
    refine ⟨sw0 hB, ?_⟩
    try simp (disch := omega) only [wN hW, wO hW, wTu hW, wGi hW, wMi hW, wL0 hW, wL1 hW, wG0 hW, wG1 hW, wT hW, wH hW, Int.reduceToNat]
    unfold cntZ at hQ
    first
      | (rw [if_pos (by omega)] at hQ; exact hQ)
      | (rw [if_neg (by omega), if_pos (by omega)] at hQ; exact hQ)
      | (rw [if_neg (by omega), if_neg (by omega), if_pos (by omega)] at hQ; exact hQ)
      | (rw [if_neg (by omega), if_neg (by omega), if_neg (by omega), if_pos (by omega)] at hQ; exact hQ)
      | (rw [if_neg (by omega), if_neg (by omega), if_neg (by omega), if_neg (by omega), if_pos (by omega)] at hQ; exact hQ)
      | (rw [if_neg (by omega), if_neg (by omega), if_neg (by omega), if_neg (by omega), if_neg (by omega), if_pos (by omega)] at hQ; exact hQ)
      | (rw [if_neg (by omega), if_neg (by omega), if_neg (by omega), if_neg (by omega), if_neg (by omega), if_neg (by omega), if_pos (by omega)] at hQ; exact hQ)
      | (rw [if_neg (by omega), if_neg (by omega), if_neg (by omega), if_neg (by omega), if_neg (by omega), if_neg (by omega), if_neg (by omega), if_pos (by omega)] at hQ; exact hQ)
      | (rw [if_neg (by omega), if_neg (by omega), if_neg (by omega), if_neg (by omega), if_neg (by omega), if_neg (by omega), if_neg (by omega), if_neg (by omega), if_pos (by omega)] at hQ; exact hQ)
      | (rw [if_neg (by omega), if_neg (by omega), if_neg (by omega), if_neg (by omega), if_neg (by omega), if_neg (by omega), if_neg (by omega), if_neg (by omega), if_neg (by omega), if_pos (by omega)] at hQ; exact hQ)
      | (rw [if_neg (by omega), if_neg (by omega), if_neg (by omega), if_neg (by omega), if_neg (by omega), if_neg (by omega), if_neg (by omega), if_neg (by omega), if_neg (by omega), if_neg (by omega), if_pos (by omega)] at hQ; exact hQ)
      | (rw [if_neg (by omega), if_neg (by omega), if_neg (by omega), if_neg (by omega), if_neg (by omega), if_neg (by omega), if_neg (by omega), if_neg (by omega), if_neg (by omega), if_neg (by omega), if_neg (by omega), if_pos (by omega)] at hQ; exact hQ)
      | (rw [if_neg (by omega), if_neg (by omega), if_neg (by omega), if_neg (by omega), if_neg (by omega), if_neg (by omega), if_neg (by omega), if_neg (by omega), if_neg (by omega), if_neg (by omega), if_neg (by omega), if_neg (by omega)] at hQ; exact hQ)
  · refine B_X8_figure_69 ?_
    try dsimp only
    try simp (disch := omega) only [wN hW, wO hW, wTu hW, wGi hW, wMi hW, wL0 hW, wL1 hW, wG0 hW, wG1 hW, wT hW, wH hW, Int.reduceToNat]
    refine ⟨sw0 hB, ?_⟩
    try simp (disch := omega) only [wN hW, wO hW, wTu hW, wGi hW, wMi hW, wL0 hW, wL1 hW, wG0 hW, wG1 hW, wT hW, wH hW, Int.reduceToNat]
    unfold cntZ at hQ
    first
      | (rw [if_pos (by omega)] at hQ; exact hQ)
      | (rw [if_neg (by omega), if_pos (by omega)] at hQ; exact hQ)
      | (rw [if_neg (by omega), if_neg (by omega), if_pos (by omega)] at hQ; exact hQ)
      | (rw [if_neg (by omega), if_neg (by omega), if_neg (by omega), if_pos (by omega)] at hQ; exact hQ)
      | (rw [if_neg (by omega), if_neg (by omega), if_neg (by omega), if_neg (by omega), if_pos (by omega)] at hQ; exact hQ)
      | (rw [if_neg (by omega), if_neg (by omega), if_neg (by omega), if_neg (by omega), if_neg (by omega), if_pos (by omega)] at hQ; exact hQ)
      | (rw [if_neg (by omega), if_neg (by omega), if_neg (by omega), if_neg (by omega), if_neg (by omega), if_neg (by omega), if_pos (by omega)] at hQ; exact hQ)
      | (rw [if_neg (by omega), if_neg (by omega), if_neg (by omega), if_neg (by omega), if_neg (by omega), if_neg (by omega), if_neg (by omega), if_pos (by omega)] at hQ; exact hQ)
      | (rw [if_neg (by omega), if_neg (by omega), if_neg (by omega), if_neg (by omega), if_neg (by omega), if_neg (by omega), if_neg (by omega), if_neg (by omega), if_pos (by omega)] at hQ; exact hQ)
      | (rw [if_neg (by omega), if_neg (by omega), if_neg (by omega), if_neg (by omega), if_neg (by omega), if_neg (by omega), if_neg (by omega), if_neg (by omega), if_neg (by omega), if_pos (by omega)] at hQ; exact hQ)
      | (rw [if_neg (by omega), if_neg (by omega), if_neg (by omega), if_neg (by omega), if_neg (by omega), if_neg (by omega), if_neg (by omega), if_neg (by omega), if_neg (by omega), if_neg (by omega), if_pos (by omega)] at hQ; exact hQ)
      | (rw [if_neg (by omega), if_neg (by omega), if_neg (by omega), if_neg (by omega), if_neg (by omega), if_neg (by omega), if_neg (by omega), if_neg (by omega), if_neg (by omega), if_neg (by omega), if_neg (by omega), if_pos (by omega)] at hQ; exact hQ)
      | (rw [if_neg (by omega), if_neg (by omega), if_neg (by omega), if_neg (by omega), if_neg (by omega), if_neg (by omega), if_neg (by omega), if_neg (by omega), if_neg (by omega), if_neg (by omega), if_neg (by omega), if_neg (by omega)] at hQ; exact hQ)
  · refine B_X8_figure_74 ?_
    try dsimp only
    try simp (disch := omega) only [wN hW, wO hW, wTu hW, wGi hW, wMi hW, wL0 hW, wL1 hW, wG0 hW, wG1 hW, wT hW, wH hW, Int.reduceToNat]
    refine ⟨sw0 hB, ?_⟩
    try simp (disch := omega) only [wN hW, wO hW, wTu hW, wGi hW, wMi hW, wL0 hW, wL1 hW, wG0 hW, wG1 hW, wT hW, wH hW, Int.reduceToNat]
    refine ⟨⟨Nat.zero_le _, Nat.zero_le _, Nat.le_of_ble_eq_true rfl⟩, sw0 hB, ?_⟩
    refine D_troopsThatAre hG hB hRW hW hb ?_
    refine af_I0 rfl rfl (by decide) ?_
    try dsimp only
    try simp (disch := omega) only [wN hW, wO hW, wTu hW, wGi hW, wMi hW, wL0 hW, wL1 hW, wG0 hW, wG1 hW, wT hW, wH hW, Int.reduceToNat]
    refine B_X8_figure_83 ?_
    try dsimp only
    try simp (disch := omega) only [wN hW, wO hW, wTu hW, wGi hW, wMi hW, wL0 hW, wL1 hW, wG0 hW, wG1 hW, wT hW, wH hW, Int.reduceToNat]
    refine ⟨by (refine ⟨?_, ?_⟩ <;> omega), ?_⟩
    unfold cntZ at hQ
    first
      | (rw [if_pos (by omega)] at hQ; exact hQ)
      | (rw [if_neg (by omega), if_pos (by omega)] at hQ; exact hQ)
      | (rw [if_neg (by omega), if_neg (by omega), if_pos (by omega)] at hQ; exact hQ)
      | (rw [if_neg (by omega), if_neg (by omega), if_neg (by omega), if_pos (by omega)] at hQ; exact hQ)
      | (rw [if_neg (by omega), if_neg (by omega), if_neg (by omega), if_neg (by omega), if_pos (by omega)] at hQ; exact hQ)
      | (rw [if_neg (by omega), if_neg (by omega), if_neg (by omega), if_neg (by omega), if_neg (by omega), if_pos (by omega)] at hQ; exact hQ)
      | (rw [if_neg (by omega), if_neg (by omega), if_neg (by omega), if_neg (by omega), if_neg (by omega), if_neg (by omega), if_pos (by omega)] at hQ; exact hQ)
      | (rw [if_neg (by omega), if_neg (by omega), if_neg (by omega), if_neg (by omega), if_neg (by omega), if_neg (by omega), if_neg (by omega), if_pos (by omega)] at hQ; exact hQ)
      | (rw [if_neg (by omega), if_neg (by omega), if_neg (by omega), if_neg (by omega), if_neg (by omega), if_neg (by omega), if_neg (by omega), if_neg (by omega), if_pos (by omega)] at hQ; exact hQ)
      | (rw [if_neg (by omega), if_neg (by omega), if_neg (by omega), if_neg (by omega), if_neg (by omega), if_neg (by omega), if_neg (by omega), if_neg (by omega), if_neg (by omega), if_pos (by omega)] at hQ; exact hQ)
      | (rw [if_neg (by omega), if_neg (by omega), if_neg (by omega), if_neg (by omega), if_neg (by omega), if_neg (by omega), if_neg (by omega), if_neg (by omega), if_neg (by omega), if_neg (by omega), if_pos (by omega)] at hQ; exact hQ)
      | (rw [if_neg (by omega), if_neg (by omega), if_neg (by omega), if_neg (by omega), if_neg (by omega), if_neg (by omega), if_neg (by omega), if_neg (by omega), if_neg (by omega), if_neg (by omega), if_neg (by omega), if_pos (by omega)] at hQ; exact hQ)
      | (rw [if_neg (by omega), if_neg (by omega), if_neg (by omega), if_neg (by omega), if_neg (by omega), if_neg (by omega), if_neg (by omega), if_neg (by omega), if_neg (by omega), if_neg (by omega), if_neg (by omega), if_neg (by omega)] at hQ; exact hQ)
  · refine B_X8_figure_85 ?_
    try dsimp only
    try simp (disch := omega) only [wN hW, wO hW, wTu hW, wGi hW, wMi hW, wL0 hW, wL1 hW, wG0 hW, wG1 hW, wT hW, wH hW, Int.reduceToNat]
    refine ⟨⟨Nat.zero_le _, Nat.zero_le _, Nat.le_of_ble_eq_true rfl⟩, sw0 hB, ?_⟩
    refine D_troopsThatAre hG hB hRW hW hb ?_
    refine af_I0 rfl rfl (by decide) ?_
    try dsimp only
    try simp (disch := omega) only [wN hW, wO hW, wTu hW, wGi hW, wMi hW, wL0 hW, wL1 hW, wG0 hW, wG1 hW, wT hW, wH hW, Int.reduceToNat]
    refine B_X8_figure_90 ?_
    try dsimp only
    try simp (disch := omega) only [wN hW, wO hW, wTu hW, wGi hW, wMi hW, wL0 hW, wL1 hW, wG0 hW, wG1 hW, wT hW, wH hW, Int.reduceToNat]
    unfold cntZ at hQ
    first
      | (rw [if_pos (by omega)] at hQ; exact hQ)
      | (rw [if_neg (by omega), if_pos (by omega)] at hQ; exact hQ)
      | (rw [if_neg (by omega), if_neg (by omega), if_pos (by omega)] at hQ; exact hQ)
      | (rw [if_neg (by omega), if_neg (by omega), if_neg (by omega), if_pos (by omega)] at hQ; exact hQ)
      | (rw [if_neg (by omega), if_neg (by omega), if_neg (by omega), if_neg (by omega), if_pos (by omega)] at hQ; exact hQ)
      | (rw [if_neg (by omega), if_neg (by omega), if_neg (by omega), if_neg (by omega), if_neg (by omega), if_pos (by omega)] at hQ; exact hQ)
      | (rw [if_neg (by omega), if_neg (by omega), if_neg (by omega), if_neg (by omega), if_neg (by omega), if_neg (by omega), if_pos (by omega)] at hQ; exact hQ)
      | (rw [if_neg (by omega), if_neg (by omega), if_neg (by omega), if_neg (by omega), if_neg (by omega), if_neg (by omega), if_neg (by omega), if_pos (by omega)] at hQ; exact hQ)
      | (rw [if_neg (by omega), if_neg (by omega), if_neg (by omega), if_neg (by omega), if_neg (by omega), if_neg (by omega), if_neg (by omega), if_neg (by omega), if_pos (by omega)] at hQ; exact hQ)
      | (rw [if_neg (by omega), if_neg (by omega), if_neg (by omega), if_neg (by omega), if_neg (by omega), if_neg (by omega), if_neg (by omega), if_neg (by omega), if_neg (by omega), if_pos (by omega)] at hQ; exact hQ)
      | (rw [if_neg (by omega), if_neg (by omega), if_neg (by omega), if_neg (by omega), if_neg (by omega), if_neg (by omega), if_neg (by omega), if_neg (by omega), if_neg (by omega), if_neg (by omega), if_pos (by omega)] at hQ; exact hQ)
      | (rw [if_neg (by omega), if_neg (by omega), if_neg (by omega), if_neg (by omega), if_neg (by omega), if_neg (by omega), if_neg (by omega), if_neg (by omega), if_neg (by omega), if_neg (by omega), if_neg (by omega), if_pos (by omega)] at hQ; exact hQ)
      | (rw [if_neg (by omega), if_neg (by omega), if_neg (by omega), if_neg (by omega), if_neg (by omega), if_neg (by omega), if_neg (by omega), if_neg (by omega), if_neg (by omega), if_neg (by omega), if_neg (by omega), if_neg (by omega)] at hQ; exact hQ)
  · refine B_X8_figure_91 ?_
    try dsimp only
    try simp (disch := omega) only [wN hW, wO hW, wTu hW, wGi hW, wMi hW, wL0 hW, wL1 hW, wG0 hW, wG1 hW, wT hW, wH hW, Int.reduceToNat]
    refine ⟨sw0 hB, ?_⟩
    try simp (disch := omega) only [wN hW, wO hW, wTu hW, wGi hW, wMi hW, wL0 hW, wL1 hW, wG0 hW, wG1 hW, wT hW, wH hW, Int.reduceToNat]
    unfold cntZ at hQ
    first
      | (rw [if_pos (by omega)] at hQ; exact hQ)
      | (rw [if_neg (by omega), if_pos (by omega)] at hQ; exact hQ)
      | (rw [if_neg (by omega), if_neg (by omega), if_pos (by omega)] at hQ; exact hQ)
      | (rw [if_neg (by omega), if_neg (by omega), if_neg (by omega), if_pos (by omega)] at hQ; exact hQ)
      | (rw [if_neg (by omega), if_neg (by omega), if_neg (by omega), if_neg (by omega), if_pos (by omega)] at hQ; exact hQ)
      | (rw [if_neg (by omega), if_neg (by omega), if_neg (by omega), if_neg (by omega), if_neg (by omega), if_pos (by omega)] at hQ; exact hQ)
      | (rw [if_neg (by omega), if_neg (by omega), if_neg (by omega), if_neg (by omega), if_neg (by omega), if_neg (by omega), if_pos (by omega)] at hQ; exact hQ)
      | (rw [if_neg (by omega), if_neg (by omega), if_neg (by omega), if_neg (by omega), if_neg (by omega), if_neg (by omega), if_neg (by omega), if_pos (by omega)] at hQ; exact hQ)
      | (rw [if_neg (by omega), if_neg (by omega), if_neg (by omega), if_neg (by omega), if_neg (by omega), if_neg (by omega), if_neg (by omega), if_neg (by omega), if_pos (by omega)] at hQ; exact hQ)
      | (rw [if_neg (by omega), if_neg (by omega), if_neg (by omega), if_neg (by omega), if_neg (by omega), if_neg (by omega), if_neg (by omega), if_neg (by omega), if_neg (by omega), if_pos (by omega)] at hQ; exact hQ)
      | (rw [if_neg (by omega), if_neg (by omega), if_neg (by omega), if_neg (by omega), if_neg (by omega), if_neg (by omega), if_neg (by omega), if_neg (by omega), if_neg (by omega), if_neg (by omega), if_pos (by omega)] at hQ; exact hQ)
      | (rw [if_neg (by omega), if_neg (by omega), if_neg (by omega), if_neg (by omega), if_neg (by omega), if_neg (by omega), if_neg (by omega), if_neg (by omega), if_neg (by omega), if_neg (by omega), if_neg (by omega), if_pos (by omega)] at hQ; exact hQ)
      | (rw [if_neg (by omega), if_neg (by omega), if_neg (by omega), if_neg (by omega), if_neg (by omega), if_neg (by omega), if_neg (by omega), if_neg (by omega), if_neg (by omega), if_neg (by omega), if_neg (by omega), if_neg (by omega)] at hQ; exact hQ)
  · refine B_X8_figure_96 ?_
    try dsimp only
    try simp (disch := omega) only [wN hW, wO hW, wTu hW, wGi hW, wMi hW, wL0 hW, wL1 hW, wG0 hW, wG1 hW, wT hW, wH hW, Int.reduceToNat]
    refine ⟨sw0 hB, ?_⟩
    try simp (disch := omega) only [wN hW, wO hW, wTu hW, wGi hW, wMi hW, wL0 hW, wL1 hW, wG0 hW, wG1 hW, wT hW, wH hW, Int.reduceToNat]
    unfold cntZ at hQ
    first
      | (rw [if_pos (by omega)] at hQ; exact hQ)
      | (rw [if_neg (by omega), if_pos (by omega)] at hQ; exact hQ)
      | (rw [if_neg (by omega), if_neg (by omega), if_pos (by omega)] at hQ; exact hQ)
      | (rw [if_neg (by omega), if_neg (by omega), if_neg (by omega), if_pos (by omega)] at hQ; exact hQ)
      | (rw [if_neg (by omega), if_neg (by omega), if_neg (by omega), if_neg (by omega), if_pos (by omega)] at hQ; exact hQ)
      | (rw [if_neg (by omega), if_neg (by omega), if_neg (by omega), if_neg (by omega), if_neg (by omega), if_pos (by omega)] at hQ; exact hQ)
      | (rw [if_neg (by omega), if_neg (by omega), if_neg (by omega), if_neg (by omega), if_neg (by omega), if_neg (by omega), if_pos (by omega)] at hQ; exact hQ)
      | (rw [if_neg (by omega), if_neg (by omega), if_neg (by omega), if_neg (by omega), if_neg (by omega), if_neg (by omega), if_neg (by omega), if_pos (by omega)] at hQ; exact hQ)
      | (rw [if_neg (by omega), if_neg (by omega), if_neg (by omega), if_neg (by omega), if_neg (by omega), if_neg (by omega), if_neg (by omega), if_neg (by omega), if_pos (by omega)] at hQ; exact hQ)
      | (rw [if_neg (by omega), if_neg (by omega), if_neg (by omega), if_neg (by omega), if_neg (by omega), if_neg (by omega), if_neg (by omega), if_neg (by omega), if_neg (by omega), if_pos (by omega)] at hQ; exact hQ)
      | (rw [if_neg (by omega), if_neg (by omega), if_neg (by omega), if_neg (by omega), if_neg (by omega), if_neg (by omega), if_neg (by omega), if_neg (by omega), if_neg (by omega), if_neg (by omega), if_pos (by omega)] at hQ; exact hQ)
      | (rw [if_neg (by omega), if_neg (by omega), if_neg (by omega), if_neg (by omega), if_neg (by omega), if_neg (by omega), if_neg (by omega), if_neg (by omega), if_neg (by omega), if_neg (by omega), if_neg (by omega), if_pos (by omega)] at hQ; exact hQ)
      | (rw [if_neg (by omega), if_neg (by omega), if_neg (by omega), if_neg (by omega), if_neg (by omega), if_neg (by omega), if_neg (by omega), if_neg (by omega), if_neg (by omega), if_neg (by omega), if_neg (by omega), if_neg (by omega)] at hQ; exact hQ)
  · refine B_X8_figure_101 ?_
    try dsimp only
    try simp (disch := omega) only [wN hW, wO hW, wTu hW, wGi hW, wMi hW, wL0 hW, wL1 hW, wG0 hW, wG1 hW, wT hW, wH hW, Int.reduceToNat]
    refine ⟨sw0 hB, ?_⟩
    try simp (disch := omega) only [wN hW, wO hW, wTu hW, wGi hW, wMi hW, wL0 hW, wL1 hW, wG0 hW, wG1 hW, wT hW, wH hW, Int.reduceToNat]
    unfold cntZ at hQ
    first
      | (rw [if_pos (by omega)] at hQ; exact hQ)
      | (rw [if_neg (by omega), if_pos (by omega)] at hQ; exact hQ)
      | (rw [if_neg (by omega), if_neg (by omega), if_pos (by omega)] at hQ; exact hQ)
      | (rw [if_neg (by omega), if_neg (by omega), if_neg (by omega), if_pos (by omega)] at hQ; exact hQ)
      | (rw [if_neg (by omega), if_neg (by omega), if_neg (by omega), if_neg (by omega), if_pos (by omega)] at hQ; exact hQ)
      | (rw [if_neg (by omega), if_neg (by omega), if_neg (by omega), if_neg (by omega), if_neg (by omega), if_pos (by omega)] at hQ; exact hQ)
      | (rw [if_neg (by omega), if_neg (by omega), if_neg (by omega), if_neg (by omega), if_neg (by omega), if_neg (by omega), if_pos (by omega)] at hQ; exact hQ)
      | (rw [if_neg (by omega), if_neg (by omega), if_neg (by omega), if_neg (by omega), if_neg (by omega), if_neg (by omega), if_neg (by omega), if_pos (by omega)] at hQ; exact hQ)
      | (rw [if_neg (by omega), if_neg (by omega), if_neg (by omega), if_neg (by omega), if_neg (by omega), if_neg (by omega), if_neg (by omega), if_neg (by omega), if_pos (by omega)] at hQ; exact hQ)
      | (rw [if_neg (by omega), if_neg (by omega), if_neg (by omega), if_neg (by omega), if_neg (by omega), if_neg (by omega), if_neg (by omega), if_neg (by omega), if_neg (by omega), if_pos (by omega)] at hQ; exact hQ)
      | (rw [if_neg (by omega), if_neg (by omega), if_neg (by omega), if_neg (by omega), if_neg (by omega), if_neg (by omega), if_neg (by omega), if_neg (by omega), if_neg (by omega), if_neg (by omega), if_pos (by omega)] at hQ; exact hQ)
      | (rw [if_neg (by omega), if_neg (by omega), if_neg (by omega), if_neg (by omega), if_neg (by omega), if_neg (by omega), if_neg (by omega), if_neg (by omega), if_neg (by omega), if_neg (by omega), if_neg (by omega), if_pos (by omega)] at hQ; exact hQ)
      | (rw [if_neg (by omega), if_neg (by omega), if_neg (by omega), if_neg (by omega), if_neg (by omega), if_neg (by omega), if_neg (by omega), if_neg (by omega), if_neg (by omega), if_neg (by omega), if_neg (by omega), if_neg (by omega)] at hQ; exact hQ)
  · refine B_X8_figure_106 ?_
    try dsimp only
    try simp (disch := omega) only [wN hW, wO hW, wTu hW, wGi hW, wMi hW, wL0 hW, wL1 hW, wG0 hW, wG1 hW, wT hW, wH hW, Int.reduceToNat]
    refine ⟨sw0 hB, _, hRW.lo, ?_⟩
    refine ⟨_, sw6 hB, ⟨by omega, by omega⟩, ?_⟩
    try simp (disch := omega) only [wN hW, wO hW, wTu hW, wGi hW, wMi hW, wL0 hW, wL1 hW, wG0 hW, wG1 hW, wT hW, wH hW, Int.reduceToNat]
    unfold cntZ at hQ
    first
      | (rw [if_pos (by omega)] at hQ; exact hQ)
      | (rw [if_neg (by omega), if_pos (by omega)] at hQ; exact hQ)
      | (rw [if_neg (by omega), if_neg (by omega), if_pos (by omega)] at hQ; exact hQ)
      | (rw [if_neg (by omega), if_neg (by omega), if_neg (by omega), if_pos (by omega)] at hQ; exact hQ)
      | (rw [if_neg (by omega), if_neg (by omega), if_neg (by omega), if_neg (by omega), if_pos (by omega)] at hQ; exact hQ)
      | (rw [if_neg (by omega), if_neg (by omega), if_neg (by omega), if_neg (by omega), if_neg (by omega), if_pos (by omega)] at hQ; exact hQ)
      | (rw [if_neg (by omega), if_neg (by omega), if_neg (by omega), if_neg (by omega), if_neg (by omega), if_neg (by omega), if_pos (by omega)] at hQ; exact hQ)
      | (rw [if_neg (by omega), if_neg (by omega), if_neg (by omega), if_neg (by omega), if_neg (by omega), if_neg (by omega), if_neg (by omega), if_pos (by omega)] at hQ; exact hQ)
      | (rw [if_neg (by omega), if_neg (by omega), if_neg (by omega), if_neg (by omega), if_neg (by omega), if_neg (by omega), if_neg (by omega), if_neg (by omega), if_pos (by omega)] at hQ; exact hQ)
      | (rw [if_neg (by omega), if_neg (by omega), if_neg (by omega), if_neg (by omega), if_neg (by omega), if_neg (by omega), if_neg (by omega), if_neg (by omega), if_neg (by omega), if_pos (by omega)] at hQ; exact hQ)
      | (rw [if_neg (by omega), if_neg (by omega), if_neg (by omega), if_neg (by omega), if_neg (by omega), if_neg (by omega), if_neg (by omega), if_neg (by omega), if_neg (by omega), if_neg (by omega), if_pos (by omega)] at hQ; exact hQ)
      | (rw [if_neg (by omega), if_neg (by omega), if_neg (by omega), if_neg (by omega), if_neg (by omega), if_neg (by omega), if_neg (by omega), if_neg (by omega), if_neg (by omega), if_neg (by omega), if_neg (by omega), if_pos (by omega)] at hQ; exact hQ)
      | (rw [if_neg (by omega), if_neg (by omega), if_neg (by omega), if_neg (by omega), if_neg (by omega), if_neg (by omega), if_neg (by omega), if_neg (by omega), if_neg (by omega), if_neg (by omega), if_neg (by omega), if_neg (by omega)] at hQ; exact hQ)
  · refine B_X8_figure_113 ?_
    try dsimp only
    try simp (disch := omega) only [wN hW, wO hW, wTu hW, wGi hW, wMi hW, wL0 hW, wL1 hW, wG0 hW, wG1 hW, wT hW, wH hW, Int.reduceToNat]
    refine ⟨sw0 hB, _, hRW.lo, ?_⟩
    refine ⟨_, sw6 hB, ⟨by omega, by omega⟩, ?_⟩
    try simp (disch := omega) only [wN hW, wO hW, wTu hW, wGi hW, wMi hW, wL0 hW, wL1 hW, wG0 hW, wG1 hW, wT hW, wH hW, Int.reduceToNat]
    unfold cntZ at hQ
    first
      | (rw [if_pos (by omega)] at hQ; exact hQ)
      | (rw [if_neg (by omega), if_pos (by omega)] at hQ; exact hQ)
      | (rw [if_neg (by omega), if_neg (by omega), if_pos (by omega)] at hQ; exact hQ)
      | (rw [if_neg (by omega), if_neg (by omega), if_neg (by omega), if_pos (by omega)] at hQ; exact hQ)
      | (rw [if_neg (by omega), if_neg (by omega), if_neg (by omega), if_neg (by omega), if_pos (by omega)] at hQ; exact hQ)
      | (rw [if_neg (by omega), if_neg (by omega), if_neg (by omega), if_neg (by omega), if_neg (by omega), if_pos (by omega)] at hQ; exact hQ)
      | (rw [if_neg (by omega), if_neg (by omega), if_neg (by omega), if_neg (by omega), if_neg (by omega), if_neg (by omega), if_pos (by omega)] at hQ; exact hQ)
      | (rw [if_neg (by omega), if_neg (by omega), if_neg (by omega), if_neg (by omega), if_neg (by omega), if_neg (by omega), if_neg (by omega), if_pos (by omega)] at hQ; exact hQ)
      | (rw [if_neg (by omega), if_neg (by omega), if_neg (by omega), if_neg (by omega), if_neg (by omega), if_neg (by omega), if_neg (by omega), if_neg (by omega), if_pos (by omega)] at hQ; exact hQ)
      | (rw [if_neg (by omega), if_neg (by omega), if_neg (by omega), if_neg (by omega), if_neg (by omega), if_neg (by omega), if_neg (by omega), if_neg (by omega), if_neg (by omega), if_pos (by omega)] at hQ; exact hQ)
      | (rw [if_neg (by omega), if_neg (by omega), if_neg (by omega), if_neg (by omega), if_neg (by omega), if_neg (by omega), if_neg (by omega), if_neg (by omega), if_neg (by omega), if_neg (by omega), if_pos (by omega)] at hQ; exact hQ)
      | (rw [if_neg (by omega), if_neg (by omega), if_neg (by omega), if_neg (by omega), if_neg (by omega), if_neg (by omega), if_neg (by omega), if_neg (by omega), if_neg (by omega), if_neg (by omega), if_neg (by omega), if_pos (by omega)] at hQ; exact hQ)
      | (rw [if_neg (by omega), if_neg (by omega), if_neg (by omega), if_neg (by omega), if_neg (by omega), if_neg (by omega), if_neg (by omega), if_neg (by omega), if_neg (by omega), if_neg (by omega), if_neg (by omega), if_neg (by omega)] at hQ; exact hQ)
  · refine B_X8_figure_120 ?_
    try dsimp only
    try simp (disch := omega) only [wN hW, wO hW, wTu hW, wGi hW, wMi hW, wL0 hW, wL1 hW, wG0 hW, wG1 hW, wT hW, wH hW, Int.reduceToNat]
    refine ⟨⟨Nat.zero_le _, Nat.zero_le _, Nat.le_of_ble_eq_true rfl⟩, sw0 hB, ?_⟩
    refine D_strengthOf hG hB hRW hW hb ?_
    refine af_I0 rfl rfl (by decide) ?_
    try dsimp only
    try simp (disch := omega) only [wN hW, wO hW, wTu hW, wGi hW, wMi hW, wL0 hW, wL1 hW, wG0 hW, wG1 hW, wT hW, wH hW, Int.reduceToNat]
    refine B_X8_figure_125 ?_
    try dsimp only
    try simp (disch := omega) only [wN hW, wO hW, wTu hW, wGi hW, wMi hW, wL0 hW, wL1 hW, wG0 hW, wG1 hW, wT hW, wH hW, Int.reduceToNat]
    unfold cntZ at hQ
    first
      | (rw [if_pos (by omega)] at hQ; exact hQ)
      | (rw [if_neg (by omega), if_pos (by omega)] at hQ; exact hQ)
      | (rw [if_neg (by omega), if_neg (by omega), if_pos (by omega)] at hQ; exact hQ)
      | (rw [if_neg (by omega), if_neg (by omega), if_neg (by omega), if_pos (by omega)] at hQ; exact hQ)
      | (rw [if_neg (by omega), if_neg (by omega), if_neg (by omega), if_neg (by omega), if_pos (by omega)] at hQ; exact hQ)
      | (rw [if_neg (by omega), if_neg (by omega), if_neg (by omega), if_neg (by omega), if_neg (by omega), if_pos (by omega)] at hQ; exact hQ)
      | (rw [if_neg (by omega), if_neg (by omega), if_neg (by omega), if_neg (by omega), if_neg (by omega), if_neg (by omega), if_pos (by omega)] at hQ; exact hQ)
      | (rw [if_neg (by omega), if_neg (by omega), if_neg (by omega), if_neg (by omega), if_neg (by omega), if_neg (by omega), if_neg (by omega), if_pos (by omega)] at hQ; exact hQ)
      | (rw [if_neg (by omega), if_neg (by omega), if_neg (by omega), if_neg (by omega), if_neg (by omega), if_neg (by omega), if_neg (by omega), if_neg (by omega), if_pos (by omega)] at hQ; exact hQ)
      | (rw [if_neg (by omega), if_neg (by omega), if_neg (by omega), if_neg (by omega), if_neg (by omega), if_neg (by omega), if_neg (by omega), if_neg (by omega), if_neg (by omega), if_pos (by omega)] at hQ; exact hQ)
      | (rw [if_neg (by omega), if_neg (by omega), if_neg (by omega), if_neg (by omega), if_neg (by omega), if_neg (by omega), if_neg (by omega), if_neg (by omega), if_neg (by omega), if_neg (by omega), if_pos (by omega)] at hQ; exact hQ)
      | (rw [if_neg (by omega), if_neg (by omega), if_neg (by omega), if_neg (by omega), if_neg (by omega), if_neg (by omega), if_neg (by omega), if_neg (by omega), if_neg (by omega), if_neg (by omega), if_neg (by omega), if_pos (by omega)] at hQ; exact hQ)
      | (rw [if_neg (by omega), if_neg (by omega), if_neg (by omega), if_neg (by omega), if_neg (by omega), if_neg (by omega), if_neg (by omega), if_neg (by omega), if_neg (by omega), if_neg (by omega), if_neg (by omega), if_neg (by omega)] at hQ; exact hQ)
  · refine B_X8_figure_126 ?_
    try dsimp only
    try simp (disch := omega) only [wN hW, wO hW, wTu hW, wGi hW, wMi hW, wL0 hW, wL1 hW, wG0 hW, wG1 hW, wT hW, wH hW, Int.reduceToNat]
    refine ⟨⟨Nat.zero_le _, Nat.zero_le _, Nat.le_of_ble_eq_true rfl⟩, sw0 hB, ?_⟩
    refine D_strengthOf hG hB hRW hW hb ?_
    refine af_I0 rfl rfl (by decide) ?_
    try dsimp only
    try simp (disch := omega) only [wN hW, wO hW, wTu hW, wGi hW, wMi hW, wL0 hW, wL1 hW, wG0 hW, wG1 hW, wT hW, wH hW, Int.reduceToNat]
    refine B_X8_figure_131 ?_
    try dsimp only
    try simp (disch := omega) only [wN hW, wO hW, wTu hW, wGi hW, wMi hW, wL0 hW, wL1 hW, wG0 hW, wG1 hW, wT hW, wH hW, Int.reduceToNat]
    unfold cntZ at hQ
    first
      | (rw [if_pos (by omega)] at hQ; exact hQ)
      | (rw [if_neg (by omega), if_pos (by omega)] at hQ; exact hQ)
      | (rw [if_neg (by omega), if_neg (by omega), if_pos (by omega)] at hQ; exact hQ)
      | (rw [if_neg (by omega), if_neg (by omega), if_neg (by omega), if_pos (by omega)] at hQ; exact hQ)
      | (rw [if_neg (by omega), if_neg (by omega), if_neg (by omega), if_neg (by omega), if_pos (by omega)] at hQ; exact hQ)
      | (rw [if_neg (by omega), if_neg (by omega), if_neg (by omega), if_neg (by omega), if_neg (by omega), if_pos (by omega)] at hQ; exact hQ)
      | (rw [if_neg (by omega), if_neg (by omega), if_neg (by omega), if_neg (by omega), if_neg (by omega), if_neg (by omega), if_pos (by omega)] at hQ; exact hQ)
      | (rw [if_neg (by omega), if_neg (by omega), if_neg (by omega), if_neg (by omega), if_neg (by omega), if_neg (by omega), if_neg (by omega), if_pos (by omega)] at hQ; exact hQ)
      | (rw [if_neg (by omega), if_neg (by omega), if_neg (by omega), if_neg (by omega), if_neg (by omega), if_neg (by omega), if_neg (by omega), if_neg (by omega), if_pos (by omega)] at hQ; exact hQ)
      | (rw [if_neg (by omega), if_neg (by omega), if_neg (by omega), if_neg (by omega), if_neg (by omega), if_neg (by omega), if_neg (by omega), if_neg (by omega), if_neg (by omega), if_pos (by omega)] at hQ; exact hQ)
      | (rw [if_neg (by omega), if_neg (by omega), if_neg (by omega), if_neg (by omega), if_neg (by omega), if_neg (by omega), if_neg (by omega), if_neg (by omega), if_neg (by omega), if_neg (by omega), if_pos (by omega)] at hQ; exact hQ)
      | (rw [if_neg (by omega), if_neg (by omega), if_neg (by omega), if_neg (by omega), if_neg (by omega), if_neg (by omega), if_neg (by omega), if_neg (by omega), if_neg (by omega), if_neg (by omega), if_neg (by omega), if_pos (by omega)] at hQ; exact hQ)
      | (rw [if_neg (by omega), if_neg (by omega), if_neg (by omega), if_neg (by omega), if_neg (by omega), if_neg (by omega), if_neg (by omega), if_neg (by omega), if_neg (by omega), if_neg (by omega), if_neg (by omega), if_neg (by omega)] at hQ; exact hQ)
  · refine B_X8_figure_132 ?_
    try dsimp only
    try simp (disch := omega) only [wN hW, wO hW, wTu hW, wGi hW, wMi hW, wL0 hW, wL1 hW, wG0 hW, wG1 hW, wT hW, wH hW, Int.reduceToNat]
    refine ⟨sw0 hB, _, hRW.ge, ?_⟩
    refine ⟨_, sw3 hB, ⟨by omega, by omega⟩, ?_⟩
    try simp (disch := omega) only [wN hW, wO hW, wTu hW, wGi hW, wMi hW, wL0 hW, wL1 hW, wG0 hW, wG1 hW, wT hW, wH hW, Int.reduceToNat]
    unfold cntZ at hQ
    first
      | (rw [if_pos (by omega)] at hQ; exact hQ)
      | (rw [if_neg (by omega), if_pos (by omega)] at hQ; exact hQ)
      | (rw [if_neg (by omega), if_neg (by omega), if_pos (by omega)] at hQ; exact hQ)
      | (rw [if_neg (by omega), if_neg (by omega), if_neg (by omega), if_pos (by omega)] at hQ; exact hQ)
      | (rw [if_neg (by omega), if_neg (by omega), if_neg (by omega), if_neg (by omega), if_pos (by omega)] at hQ; exact hQ)
      | (rw [if_neg (by omega), if_neg (by omega), if_neg (by omega), if_neg (by omega), if_neg (by omega), if_pos (by omega)] at hQ; exact hQ)
      | (rw [if_neg (by omega), if_neg (by omega), if_neg (by omega), if_neg (by omega), if_neg (by omega), if_neg (by omega), if_pos (by omega)] at hQ; exact hQ)
      | (rw [if_neg (by omega), if_neg (by omega), if_neg (by omega), if_neg (by omega), if_neg (by omega), if_neg (by omega), if_neg (by omega), if_pos (by omega)] at hQ; exact hQ)
      | (rw [if_neg (by omega), if_neg (by omega), if_neg (by omega), if_neg (by omega), if_neg (by omega), if_neg (by omega), if_neg (by omega), if_neg (by omega), if_pos (by omega)] at hQ; exact hQ)
      | (rw [if_neg (by omega), if_neg (by omega), if_neg (by omega), if_neg (by omega), if_neg (by omega), if_neg (by omega), if_neg (by omega), if_neg (by omega), if_neg (by omega), if_pos (by omega)] at hQ; exact hQ)
      | (rw [if_neg (by omega), if_neg (by omega), if_neg (by omega), if_neg (by omega), if_neg (by omega), if_neg (by omega), if_neg (by omega), if_neg (by omega), if_neg (by omega), if_neg (by omega), if_pos (by omega)] at hQ; exact hQ)
      | (rw [if_neg (by omega), if_neg (by omega), if_neg (by omega), if_neg (by omega), if_neg (by omega), if_neg (by omega), if_neg (by omega), if_neg (by omega), if_neg (by omega), if_neg (by omega), if_neg (by omega), if_pos (by omega)] at hQ; exact hQ)
      | (rw [if_neg (by omega), if_neg (by omega), if_neg (by omega), if_neg (by omega), if_neg (by omega), if_neg (by omega), if_neg (by omega), if_neg (by omega), if_neg (by omega), if_neg (by omega), if_neg (by omega), if_neg (by omega)] at hQ; exact hQ)
theorem D_lostByBoth {G : amG} {I : Nat → Nat → Int} {R : Nat → Nat → Option Nat} {L : Nat → Nat → Int64} {x c t : Nat} {Q : amR → amH → Prop} (hG : amG0 G) {b : Nat} (hB : wb b) (hRW : RW R b) {z : Row} (hW : WV I b z) (hb : wfB z) (hC : wfC z) (hQ : Q (Sum.inl (some (aI (z 319 + z 320)))) (I, R, L, (SH sT), x, 0, 0)) : CT G sX8_lostByBoth [aR (some b)] (I, R, L, (SH sT), x, c, t) Q := by
  refine CT_of ok_X8_lostByBoth hG (Nat.le_of_ble_eq_true rfl) ?_
  show X G mX8_lostByBoth Q 0 _ [] (I, R, L, (SH sT), x, 0, 0)
  unfold wfC at hC
  refine B_X8_lostByBoth_0 ?_
  try dsimp only
  try simp (disch := omega) only [wN hW, wO hW, wTu hW, wGi hW, wMi hW, wL0 hW, wL1 hW, wG0 hW, wG1 hW, wT hW, wH hW, Int.reduceToNat]
  refine ⟨sw0 hB, _, hRW.lo, ?_⟩
  refine ⟨_, sw6 hB, ⟨by omega, by omega⟩, ?_⟩
  try simp (disch := omega) only [wN hW, wO hW, wTu hW, wGi hW, wMi hW, wL0 hW, wL1 hW, wG0 hW, wG1 hW, wT hW, wH hW, Int.reduceToNat]
  refine ⟨sw0 hB, _, hRW.lo, ?_⟩
  refine ⟨_, sw6 hB, ⟨by omega, by omega⟩, ?_⟩
  try simp (disch := omega) only [wN hW, wO hW, wTu hW, wGi hW, wMi hW, wL0 hW, wL1 hW, wG0 hW, wG1 hW, wT hW, wH hW, Int.reduceToNat]
  refine ⟨by (refine ⟨?_, ?_⟩ <;> omega), ?_⟩
  exact hQ
theorem D_figureO {G : amG} {I : Nat → Nat → Int} {R : Nat → Nat → Option Nat} {L : Nat → Nat → Int64} {x c t : Nat} {Q : amR → amH → Prop} (hG : amG0 G) {b : Nat} (hB : wb b) {k : Nat} (hk : k < 30) {w : Int} (hw : 0 ≤ w ∧ w ≤ 3) (hQ : Q (Sum.inl (some (aI (fig (odC I b k) w)))) (I, R, L, (SH sT), x, 0, 0)) : CT G sX3_figure [aR (some (b + 19 + k)), aI w] (I, R, L, (SH sT), x, c, t) Q := by
  refine CT_of ok_X3_figure hG (Nat.le_of_ble_eq_true rfl) ?_
  show X G mX3_figure Q 0 _ [] (I, R, L, (SH sT), x, 0, 0)
  refine B_X3_figure_0 ?_
  try dsimp only
  refine ⟨fun c1_0 => ?_, fun c1_0 => ?_, fun c1_0 => ?_, fun c1_0 => ?_, trivial⟩
  · refine B_X3_figure_43 ?_
    try dsimp only
    refine ⟨swO hB hk, ?_⟩
    have e : w = 0 ∨ w = 1 ∨ w = 2 ∨ w = 3 := by omega
    first
      | (rw [show w = 0 by omega] at hQ; exact hQ)
      | (rw [show w = 1 by omega] at hQ; exact hQ)
      | (rw [show w = 2 by omega] at hQ; exact hQ)
      | (rw [show w = 3 by omega] at hQ; exact hQ)
  · refine B_X3_figure_28 ?_
    try dsimp only
    refine ⟨swO hB hk, ?_⟩
    have e : w = 0 ∨ w = 1 ∨ w = 2 ∨ w = 3 := by omega
    first
      | (rw [show w = 0 by omega] at hQ; exact hQ)
      | (rw [show w = 1 by omega] at hQ; exact hQ)
      | (rw [show w = 2 by omega] at hQ; exact hQ)
      | (rw [show w = 3 by omega] at hQ; exact hQ)
  · refine B_X3_figure_33 ?_
    try dsimp only
    refine ⟨swO hB hk, ?_⟩
    have e : w = 0 ∨ w = 1 ∨ w = 2 ∨ w = 3 := by omega
    first
      | (rw [show w = 0 by omega] at hQ; exact hQ)
      | (rw [show w = 1 by omega] at hQ; exact hQ)
      | (rw [show w = 2 by omega] at hQ; exact hQ)
      | (rw [show w = 3 by omega] at hQ; exact hQ)
  · refine B_X3_figure_38 ?_
    try dsimp only
    refine ⟨swO hB hk, ?_⟩
    have e : w = 0 ∨ w = 1 ∨ w = 2 ∨ w = 3 := by omega
    first
      | (rw [show w = 0 by omega] at hQ; exact hQ)
      | (rw [show w = 1 by omega] at hQ; exact hQ)
      | (rw [show w = 2 by omega] at hQ; exact hQ)
      | (rw [show w = 3 by omega] at hQ; exact hQ)
theorem D_isEnemyOf {G : amG} {I : Nat → Nat → Int} {R : Nat → Nat → Option Nat} {L : Nat → Nat → Int64} {x c t : Nat} {Q : amR → amH → Prop} (hG : amG0 G) {b : Nat} (hB : wb b) (hRW : RW R b) {z : Row} (hW : WV I b z) (hb : wfB z) {k : Int} (hk : 0 ≤ k ∧ k < z 98) {l : Int} (hl : 0 ≤ l ∧ l < z 98) (hQ : ∀ r : Int, ((tf z k.toNat 4 ≠ 2 ∧ tf z k.toNat 0 ≠ tf z l.toNat 0) ∧ r = 1) ∨ (¬ (tf z k.toNat 4 ≠ 2 ∧ tf z k.toNat 0 ≠ tf z l.toNat 0) ∧ r = 0) → Q (Sum.inl (some (aI r))) (I, R, L, (SH sT), x, 0, 0)) : CT G sX7_isEnemyOf [aR (some (b + 7 + k.toNat)), aR (some (b + 7 + l.toNat))] (I, R, L, (SH sT), x, c, t) Q := by
  refine CT_of ok_X7_isEnemyOf hG (Nat.le_of_ble_eq_true rfl) ?_
  show X G mX7_isEnemyOf Q 0 _ [] (I, R, L, (SH sT), x, 0, 0)
  have hn1 := hb.2.1.1
  have hn2 := hb.2.1.2
  have hb1 := wb_le hB
  refine B_X7_isEnemyOf_0 ?_
  try dsimp only
  try simp (disch := omega) only [wN hW, wO hW, wTu hW, wGi hW, wMi hW, wL0 hW, wL1 hW, wG0 hW, wG1 hW, wT hW, wH hW, Int.reduceToNat]
  refine ⟨swT hB (by omega), ?_⟩
  try simp (disch := omega) only [wN hW, wO hW, wTu hW, wGi hW, wMi hW, wL0 hW, wL1 hW, wG0 hW, wG1 hW, wT hW, wH hW, Int.reduceToNat]
  refine ⟨fun c5_0 => ?_, fun c5_0 => ?_⟩
  · refine B_X7_isEnemyOf_23 ?_
    try dsimp only
    try simp (disch := omega) only [wN hW, wO hW, wTu hW, wGi hW, wMi hW, wL0 hW, wL1 hW, wG0 hW, wG1 hW, wT hW, wH hW, Int.reduceToNat]
    refine B_X7_isEnemyOf_24 ?_
    try dsimp only
    try simp (disch := omega) only [wN hW, wO hW, wTu hW, wGi hW, wMi hW, wL0 hW, wL1 hW, wG0 hW, wG1 hW, wT hW, wH hW, Int.reduceToNat]
    refine ⟨by first | exact Or.inl rfl | exact Or.inr rfl | exact Or.inl trivial | exact Or.inr trivial | omega, ?_⟩
    exact hQ _ (by omega)
  · refine ⟨swT hB (by omega), ?_⟩
    try simp (disch := omega) only [wN hW, wO hW, wTu hW, wGi hW, wMi hW, wL0 hW, wL1 hW, wG0 hW, wG1 hW, wT hW, wH hW, Int.reduceToNat]
    refine ⟨swT hB (by omega), ?_⟩
    try simp (disch := omega) only [wN hW, wO hW, wTu hW, wGi hW, wMi hW, wL0 hW, wL1 hW, wG0 hW, wG1 hW, wT hW, wH hW, Int.reduceToNat]
    refine ⟨fun c16_0 => ?_, fun c16_0 => ?_⟩
    · refine B_X7_isEnemyOf_23 ?_
      try dsimp only
      try simp (disch := omega) only [wN hW, wO hW, wTu hW, wGi hW, wMi hW, wL0 hW, wL1 hW, wG0 hW, wG1 hW, wT hW, wH hW, Int.reduceToNat]
      refine B_X7_isEnemyOf_24 ?_
      try dsimp only
      try simp (disch := omega) only [wN hW, wO hW, wTu hW, wGi hW, wMi hW, wL0 hW, wL1 hW, wG0 hW, wG1 hW, wT hW, wH hW, Int.reduceToNat]
      refine ⟨by first | exact Or.inl rfl | exact Or.inr rfl | exact Or.inl trivial | exact Or.inr trivial | omega, ?_⟩
      exact hQ _ (by omega)
    · refine B_X7_isEnemyOf_24 ?_
      try dsimp only
      try simp (disch := omega) only [wN hW, wO hW, wTu hW, wGi hW, wMi hW, wL0 hW, wL1 hW, wG0 hW, wG1 hW, wT hW, wH hW, Int.reduceToNat]
      refine ⟨by first | exact Or.inl rfl | exact Or.inr rfl | exact Or.inl trivial | exact Or.inr trivial | omega, ?_⟩
      exact hQ _ (by omega)
