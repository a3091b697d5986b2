variable {sT : List (Nat × Nat)}
/-! ===== the class: orders are put in and dropped ===== -/
theorem ins_list {l m : List OD} {x : OD} {p : Nat} (hs : sdL l) (hp : p ≤ l.length) (hm : m.length = l.length + 1) (h1 : ∀ i : Nat, i < p → m[i]? = l[i]?) (h2 : m[p]? = some x) (h3 : ∀ i : Nat, p < i → i ≤ l.length → m[i]? = l[i - 1]?) (h4 : p = 0 ∨ ∃ d : OD, l[p - 1]? = some d ∧ due d ≤ due x) (h5 : ∀ i : Nat, p ≤ i → ∀ d : OD, l[i]? = some d → due x < due d) : m = insR l x := by
  have hc : cL l (due x) = p := by
    have hle := cL_le l (due x)
    have a : p ≤ cL l (due x) := by
      rcases h4 with h | ⟨d, h, hd⟩
      · omega
      · have := (sd_at hs (p - 1) (due x) d h).mpr hd
        omega
    have b : cL l (due x) ≤ p := by
      rcases Nat.lt_or_ge p l.length with q | q
      · have e : l[p]? = some l[p] := List.getElem?_eq_getElem q
        have := sd_at hs p (due x) _ e
        have := h5 p (Nat.le_refl _) _ e
        omega
      · omega
    omega
  refine List.ext_getElem? (fun i => ?_)
  rw [insR_at hs, hc]
  rcases (by omega : i < p ∨ i = p ∨ p < i) with q | q | q
  · rw [if_pos q]; exact h1 i q
  · rw [if_neg (by omega), if_pos q, q]; exact h2
  · rw [if_neg (by omega), if_neg (by omega)]
    rcases Nat.lt_or_ge l.length i with u | u
    · rw [List.getElem?_eq_none (by omega), List.getElem?_eq_none (by omega)]
    · exact h3 i q u
theorem oc_congr {I J : Nat → Nat → Int} {b n : Nat} (h : ∀ k : Nat, k < n → odC J b k = odC I b k) : oc J b n = oc I b n := by
  unfold oc
  exact List.map_congr_left (fun k hk => h k (List.mem_range.mp hk))
theorem oc_none (I : Nat → Nat → Int) (b : Nat) {n i : Nat} (h : n ≤ i) : (oc I b n)[i]? = none := List.getElem?_eq_none (by rw [oc_len]; exact h)
theorem L_enqueue {G : amG} {I : Nat → Nat → Int} {R : Nat → Nat → Option Nat} {L : Nat → Nat → Int64} {x : Nat} {Q : amR → amH → Prop} (hG : amG0 G) {b : Nat} (hB : wb b) (hRW : RW R b) {m k v te : Int} (hm : 0 ≤ m ∧ m < 30) (hK : ∀ (p : Int) (J : Nat → Nat → Int), (0 ≤ p ∧ p ≤ m) → (∀ c : Nat, c < b + 19 ∨ b + 49 ≤ c → J c = I c) → (∀ i : Nat, (i : Int) < p → odC J b i = odC I b i) → (∀ i : Nat, p < (i : Int) → (i : Int) ≤ m → odC J b i = odC I b (i - 1)) → (∀ i : Nat, p ≤ (i : Int) → (i : Int) < m → te < due (odC I b i)) → (p = 0 ∨ due (odC I b (p - 1).toNat) ≤ te) → X G mX8_enqueue Q 52 [some (aR (some b)), some (aI k), some (aI v), some (aI te), some (aI p)] [] (J, R, L, (SH sT), x, 0, 0)) :
    ∀ (n : Nat) (p : Int) (J : Nat → Nat → Int), (0 ≤ p ∧ p ≤ m ∧ p < n) → (∀ c : Nat, c < b + 19 ∨ b + 49 ≤ c → J c = I c) → (∀ i : Nat, (i : Int) < p → odC J b i = odC I b i) → (∀ i : Nat, p < (i : Int) → (i : Int) ≤ m → odC J b i = odC I b (i - 1)) → (∀ i : Nat, p ≤ (i : Int) → (i : Int) < m → te < due (odC I b i)) → X G mX8_enqueue Q 6 [some (aR (some b)), some (aI k), some (aI v), some (aI te), some (aI p)] [] (J, R, L, (SH sT), x, 0, 0) := by
  intro n
  induction n with
  | zero =>
    intros
    exfalso; omega
  | succ n ih =>
    intro p J h1 hJ a1 a2 a3
    have hd : 0 < p → J (b + 19 + (p - 1).toNat) 3 = due (odC I b (p - 1).toNat) := fun q => by
      have e := a1 (p - 1).toNat (by omega)
      have e2 : due (odC J b (p - 1).toNat) = due (odC I b (p - 1).toNat) := by rw [e]
      exact e2
    refine B_X8_enqueue_6 ?_
    try dsimp only
    refine ⟨fun c8_0 => ?_, fun c8_0 => ?_⟩
    · first
        | exact hK p J (by omega) hJ a1 a2 a3 (Or.inl (by omega))
        | (have hd1 := hd (by omega)
           exact hK p J (by omega) hJ a1 a2 a3 (Or.inr (by omega)))
    · refine ⟨sw0 hB, _, hRW.orr, ?_⟩
      refine ⟨by (refine ⟨?_, ?_⟩ <;> omega), ?_⟩
      refine ⟨_, _, sw5 hB, ⟨by decide, by decide⟩, ⟨by omega, by omega⟩, _, hRW.o (by omega), ?_⟩
      refine ⟨swO hB (by omega), ?_⟩
      refine ⟨fun c24_0 => ?_, fun c24_0 => ?_⟩
      · first
          | exact hK p J (by omega) hJ a1 a2 a3 (Or.inl (by omega))
          | (have hd1 := hd (by omega)
             exact hK p J (by omega) hJ a1 a2 a3 (Or.inr (by omega)))
      · have hd1 := hd (by omega)
        refine ⟨sw0 hB, _, hRW.orr, ?_⟩
        refine ⟨_, _, sw5 hB, ⟨by decide, by decide⟩, ⟨by omega, by omega⟩, _, hRW.o (by omega), ?_⟩
        refine ⟨sw0 hB, _, hRW.orr, ?_⟩
        refine ⟨by (refine ⟨?_, ?_⟩ <;> omega), ?_⟩
        refine ⟨_, _, sw5 hB, ⟨by decide, by decide⟩, ⟨by omega, by omega⟩, _, hRW.o (by omega), ?_⟩
        refine ⟨⟨Nat.zero_le _, Nat.zero_le _, Nat.le_of_ble_eq_true rfl⟩, swO hB (by omega), ?_⟩
        refine D_copyOrder hG (swO hB (by omega)) (swO hB (by omega)) (fun J2 j1 j2 => ?_)
        refine af_N0 rfl rfl rfl ?_
        try dsimp only
        refine B_X8_enqueue_46 ?_
        try dsimp only
        refine ⟨by (refine ⟨?_, ?_⟩ <;> omega), ?_⟩
        refine ih (p + -1) _ (by omega) (fun c hc => ?_) (fun i hi => ?_) (fun i h2 h3 => ?_) (fun i h2 h3 => ?_)
        · rw [j1 c (by omega)]
          exact hJ c hc
        · have e := a1 i (by omega)
          unfold odC at e ⊢
          rw [j1 _ (by omega)]
          exact e
        · by_cases e : i = p.toNat
          · have e2 := a1 (p - 1).toNat (by omega)
            rw [e, show p.toNat - 1 = (p - 1).toNat by omega]
            unfold odC at e2 ⊢
            rw [j2.1, j2.2.1, j2.2.2.1, j2.2.2.2]
            exact e2
          · have e2 := a2 i (by omega) h3
            unfold odC at e2 ⊢
            rw [j1 _ (by omega)]
            exact e2
        · by_cases e : i = (p - 1).toNat
          · rw [e]
            omega
          · exact a3 i (by omega) h3
theorem D_enqueue {G : amG} {I : Nat → Nat → Int} {R : Nat → Nat → Option Nat} {L : Nat → Nat → Int64} {x c t : Nat} {Q : amR → amH → Prop} (hG : amG0 G) {b : Nat} (hB : wb b) (hRW : RW R b) {m w k v te : Int} (hm : 0 ≤ m ∧ m < 30) (hw : 0 ≤ w ∧ w ≤ 100000) (h5 : I b 5 = m) (h7 : I b 7 = w) (hs : sdL (oc I b m.toNat)) (hQ : ∀ J : Nat → Nat → Int, (∀ c : Nat, c < b + 19 ∨ b + 49 ≤ c → c ≠ b → J c = I c) → (∀ j : Nat, j ≠ 5 → j ≠ 7 → J b j = I b j) → J b 5 = m + 1 → J b 7 = w + 1 → oc J b (m + 1).toNat = insR (oc I b m.toNat) (w, k, v, te) → Q (Sum.inl none) (J, R, L, (SH sT), x, 0, 0)) : CT G sX8_enqueue [aR (some b), aI k, aI v, aI te] (I, R, L, (SH sT), x, c, t) Q := by
  refine CT_of ok_X8_enqueue hG (Nat.le_of_ble_eq_true rfl) ?_
  show X G mX8_enqueue Q 0 _ [] (I, R, L, (SH sT), x, 0, 0)
  have hb1 := wb_le hB
  refine B_X8_enqueue_0 ?_
  try dsimp only
  try simp only [h5]
  refine ⟨sw0 hB, ?_⟩
  try simp only [h5]
  refine L_enqueue hG hB hRW hm (fun p J hp hJ a1 a2 a3 a4 => ?_) 31 m I (by omega) (fun c _ => rfl) (fun i _ => rfl) (fun i h1 h2 => by omega) (fun i h1 h2 => by omega)
  refine B_X8_enqueue_52 ?_
  try dsimp only
  try simp only [hJ5, hJ7, hJ7']
  refine ⟨sw0 hB, _, hRW.orr, ?_⟩
  refine ⟨_, _, sw5 hB, ⟨by decide, by decide⟩, ⟨by omega, by omega⟩, _, hRW.o (by omega), ?_⟩
  refine ⟨sw0 hB, ?_⟩
  try simp only [hJ5, hJ7, hJ7']
  refine ⟨⟨Nat.zero_le _, Nat.zero_le _, Nat.le_of_ble_eq_true rfl⟩, swO hB (by omega), ?_⟩
  refine D_write hG (swO hB (by omega)) (fun J2 j1 j2 => ?_)
  have hJ5 : J2 b 5 = m := by rw [j1 _ (by omega), hJ _ (by omega)]; exact h5
  have hJ7 : J2 b 7 = w := by rw [j1 _ (by omega), hJ _ (by omega)]; exact h7
  have hJ7' : u2 J2 b 5 (m + 1) b 7 = w := by rw [u2_ne _ _ (by omega)]; exact hJ7
  refine af_N0 rfl rfl rfl ?_
  try dsimp only
  try simp only [hJ5, hJ7, hJ7']
  refine B_X8_enqueue_69 ?_
  try dsimp only
  try simp only [hJ5, hJ7, hJ7']
  refine ⟨rfl, ?_⟩
  refine ⟨sw0 hB, ?_⟩
  try simp only [hJ5, hJ7, hJ7']
  refine ⟨by (refine ⟨?_, ?_⟩ <;> omega), ?_⟩
  refine ⟨sw0 hB, ?_⟩
  try simp only [hJ5, hJ7, hJ7']
  refine ⟨rfl, ?_⟩
  refine ⟨sw0 hB, ?_⟩
  try simp only [hJ5, hJ7, hJ7']
  refine ⟨by (refine ⟨?_, ?_⟩ <;> omega), ?_⟩
  refine ⟨sw0 hB, ?_⟩
  try simp only [hJ5, hJ7, hJ7']
  refine ⟨rfl, ?_⟩
  have F : ∀ c : Nat, c ≠ b → u2 (u2 J2 b 5 (m + 1)) b 7 (w + 1) c = J2 c := fun c hc => by
    rw [u2_off _ _ _ hc, u2_off _ _ _ hc]
  have O : ∀ i : Nat, odC (u2 (u2 J2 b 5 (m + 1)) b 7 (w + 1)) b i = odC J2 b i := fun i => by
    unfold odC
    rw [F _ (by omega)]
  have O2 : ∀ i : Nat, i ≠ p.toNat → odC J2 b i = odC J b i := fun i hi => by
    unfold odC
    rw [j1 _ (by omega)]
  have O3 : odC J2 b p.toNat = (w, k, v, te) := by
    unfold odC
    rw [j2.1, j2.2.1, j2.2.2.1, j2.2.2.2, hJ _ (by omega), h7]
  refine hQ _ (fun c h1 h2 => ?_) (fun j q1 q2 => ?_) ?_ ?_ ?_
  · rw [F c h2, j1 c (by omega)]
    exact hJ c (by omega)
  · rw [u2_ne _ _ (by omega), u2_ne _ _ (by omega), j1 _ (by omega), hJ _ (by omega)]
  · rw [u2_ne _ _ (by omega), u2_same]
  · rw [u2_same]
  · refine ins_list (p := p.toNat) hs (by rw [oc_len]; omega) (by rw [oc_len, oc_len]; omega) (fun i hi => ?_) ?_ (fun i h1 h2 => ?_) ?_ (fun i h1 d hd => ?_)
    · rw [oc_at (by omega), oc_at (by omega), O, O2 i (by omega), a1 i (by omega)]
    · rw [oc_at (by omega), O, O3]
    · rw [oc_len] at h2
      rw [oc_at (by omega), oc_at (by omega), O, O2 i (by omega), a2 i (by omega) (by omega)]
    · rcases a4 with q | q
      · exact Or.inl (by omega)
      · rcases (by omega : p = 0 ∨ 0 < p) with y | y
        · exact Or.inl (by omega)
        · refine Or.inr ⟨odC I b (p - 1).toNat, ?_, q⟩
          rw [show p.toNat - 1 = (p - 1).toNat by omega]
          exact oc_at (by omega)
    · rcases Nat.lt_or_ge i m.toNat with y | y
      · rw [oc_at y] at hd
        rw [← Option.some.inj hd]
        exact a3 i (by omega) (by omega)
      · rw [oc_none _ _ y] at hd
        exact absurd hd (by simp)
theorem L_drop {G : amG} {I : Nat → Nat → Int} {R : Nat → Nat → Option Nat} {L : Nat → Nat → Int64} {x : Nat} {Q : amR → amH → Prop} (hG : amG0 G) {b : Nat} (hB : wb b) (hRW : RW R b) {m d : Int} (hm : 0 ≤ d ∧ d ≤ m ∧ m ≤ 30) (h5 : I b 5 = m) (hK : ∀ J : Nat → Nat → Int, (∀ c : Nat, c < b + 19 ∨ b + 49 ≤ c → J c = I c) → (∀ i : Nat, (i : Int) < m - d → odC J b i = odC I b (i + d.toNat)) → X G mX8_dropFirstOrders Q 33 [some (aR (some b)), some (aI d), some (aI m)] [] (J, R, L, (SH sT), x, 0, 0)) :
    ∀ (n : Nat) (p : Int) (J : Nat → Nat → Int), (d ≤ p ∧ p ≤ m ∧ m - p < n) → (∀ c : Nat, c < b + 19 ∨ b + 49 ≤ c → J c = I c) → (∀ i : Nat, (i : Int) < p - d → odC J b i = odC I b (i + d.toNat)) → (∀ i : Nat, p - d ≤ (i : Int) → odC J b i = odC I b i) → X G mX8_dropFirstOrders Q 2 [some (aR (some b)), some (aI d), some (aI p)] [] (J, R, L, (SH sT), x, 0, 0) := by
  intro n
  induction n with
  | zero =>
    intros
    exfalso; omega
  | succ n ih =>
    intro p J h1 hJ a1 a2
    have hb5 : J b 5 = m := by rw [hJ _ (by omega)]; exact h5
    have hb1 := wb_le hB
    refine B_X8_dropFirstOrders_2 ?_
    try dsimp only
    try simp only [hb5]
    refine ⟨sw0 hB, ?_⟩
    try simp only [hb5]
    refine ⟨fun c7_0 => ?_, fun c7_0 => ?_⟩
    · have e : p = m := by omega
      rw [e] at a1 ⊢
      exact hK J hJ a1
    · refine ⟨sw0 hB, _, hRW.orr, ?_⟩
      refine ⟨by (refine ⟨?_, ?_⟩ <;> omega), ?_⟩
      refine ⟨_, _, sw5 hB, ⟨by decide, by decide⟩, ⟨by omega, by omega⟩, _, hRW.o (by omega), ?_⟩
      refine ⟨sw0 hB, _, hRW.orr, ?_⟩
      refine ⟨_, _, sw5 hB, ⟨by decide, by decide⟩, ⟨by omega, by omega⟩, _, hRW.o (by omega), ?_⟩
      refine ⟨⟨Nat.zero_le _, Nat.zero_le _, Nat.le_of_ble_eq_true rfl⟩, swO hB (by omega), ?_⟩
      refine D_copyOrder hG (swO hB (by omega)) (swO hB (by omega)) (fun J2 j1 j2 => ?_)
      refine af_N0 rfl rfl rfl ?_
      try dsimp only
      try simp only [hb5]
      refine B_X8_dropFirstOrders_27 ?_
      try dsimp only
      try simp only [hb5]
      refine ⟨by (refine ⟨?_, ?_⟩ <;> omega), ?_⟩
      refine ih (p + 1) _ (by omega) (fun c hc => ?_) (fun i hi => ?_) (fun i hi => ?_)
      · rw [j1 c (by omega)]
        exact hJ c hc
      · by_cases e : i = (p - d).toNat
        · have e2 := a2 p.toNat (by omega)
          rw [e, show (p - d).toNat + d.toNat = p.toNat by omega]
          unfold odC at e2 ⊢
          rw [j2.1, j2.2.1, j2.2.2.1, j2.2.2.2]
          exact e2
        · have e2 := a1 i (by omega)
          unfold odC at e2 ⊢
          rw [j1 _ (by omega)]
          exact e2
      · have e2 := a2 i (by omega)
        unfold odC at e2 ⊢
        rw [j1 _ (by omega)]
        exact e2
theorem D_drop {G : amG} {I : Nat → Nat → Int} {R : Nat → Nat → Option Nat} {L : Nat → Nat → Int64} {x c t : Nat} {Q : amR → amH → Prop} (hG : amG0 G) {b : Nat} (hB : wb b) (hRW : RW R b) {m d : Int} (hm : 0 ≤ d ∧ d ≤ m ∧ m ≤ 30) (h5 : I b 5 = m) (hQ : ∀ J : Nat → Nat → Int, (∀ c : Nat, c < b + 19 ∨ b + 49 ≤ c → c ≠ b → J c = I c) → (∀ j : Nat, j ≠ 5 → J b j = I b j) → J b 5 = m - d → oc J b (m - d).toNat = (oc I b m.toNat).drop d.toNat → Q (Sum.inl none) (J, R, L, (SH sT), x, 0, 0)) : CT G sX8_dropFirstOrders [aR (some b), aI d] (I, R, L, (SH sT), x, c, t) Q := by
  refine CT_of ok_X8_dropFirstOrders hG (Nat.le_of_ble_eq_true rfl) ?_
  show X G mX8_dropFirstOrders Q 0 _ [] (I, R, L, (SH sT), x, 0, 0)
  have hb1 := wb_le hB
  refine B_X8_dropFirstOrders_0 ?_
  try dsimp only
  refine L_drop hG hB hRW hm h5 (fun J hJ a1 => ?_) 31 d I (by omega) (fun c _ => rfl) (fun i hi => by omega) (fun i _ => rfl)
  have hJ5 : J b 5 = m := by rw [hJ _ (by omega)]; exact h5
  refine B_X8_dropFirstOrders_33 ?_
  try dsimp only
  try simp only [hJ5]
  refine ⟨rfl, ?_⟩
  refine ⟨sw0 hB, ?_⟩
  try simp only [hJ5]
  refine ⟨by (refine ⟨?_, ?_⟩ <;> omega), ?_⟩
  refine ⟨sw0 hB, ?_⟩
  try simp only [hJ5]
  refine ⟨rfl, ?_⟩
  refine hQ _ (fun c h1 h2 => ?_) (fun j q1 => ?_) ?_ ?_
  · rw [u2_off _ _ _ h2]
    exact hJ c h1
  · rw [u2_ne _ _ (by omega), hJ _ (by omega)]
  · rw [u2_same]
  · refine List.ext_getElem? (fun i => ?_)
    rw [List.getElem?_drop]
    rcases Nat.lt_or_ge i (m - d).toNat with y | y
    · rw [oc_at y, oc_at (by omega)]
      have e := a1 i (by omega)
      rw [Nat.add_comm d.toNat i, ← e]
      unfold odC
      rw [u2_off _ _ _ (by omega)]
    · rw [oc_none _ _ y, oc_none _ _ (by omega)]
/-! ===== a troop more ===== -/
theorem clZ_at (z : Row) (n : Nat) : ∀ k j : Nat, clZ z n k j = if 99 + 8 * n ≤ j ∧ j < 99 + 8 * n + k then 0 else z j := by
  intro k
  induction k with
  | zero => intro j; rw [if_neg (by omega)]; rfl
  | succ k ih =>
    intro j
    rw [clZ_s]
    by_cases e : j = 99 + 8 * n + k
    · rw [e, uz_same, if_pos (by omega)]
    · rw [uz_ne _ _ e, ih]
      by_cases c : 99 + 8 * n ≤ j ∧ j < 99 + 8 * n + k
      · rw [if_pos c, if_pos (by omega)]
      · rw [if_neg c, if_neg (by omega)]
theorem adZ_off {z : Row} {n : Nat} {s c v : Int} {j : Nat} (h : j < 99 + 8 * n ∨ 99 + 8 * n + 8 ≤ j) (h8 : j ≠ 98) : adZ z n s c v j = z j := by
  unfold adZ
  rw [uz_ne _ _ h8, uz_ne _ _ (by omega), uz_ne _ _ (by omega), uz_ne _ _ (by omega), uz_ne _ _ (by omega), uz_ne _ _ (by omega), clZ_at, if_neg (by omega)]
theorem adZ_98 {z : Row} {n : Nat} {s c v : Int} : adZ z n s c v 98 = z 98 + 1 := uz_same _ _ _
theorem adZ_n {z : Row} {n : Nat} {s c v : Int} : tf (adZ z n s c v) n 0 = s ∧ tf (adZ z n s c v) n 1 = c ∧ tf (adZ z n s c v) n 2 = v ∧ tf (adZ z n s c v) n 3 = c ∧ tf (adZ z n s c v) n 4 = 0 ∧ tf (adZ z n s c v) n 5 = v ∧ tf (adZ z n s c v) n 6 = 0 ∧ tf (adZ z n s c v) n 7 = 0 := by
  unfold adZ tf
  refine ⟨?_, ?_, ?_, ?_, ?_, ?_, ?_, ?_⟩
  · rw [uz_ne _ _ (by omega), uz_ne _ _ (by omega), uz_ne _ _ (by omega), uz_ne _ _ (by omega), uz_ne _ _ (by omega), uz_same]
  · rw [uz_ne _ _ (by omega), uz_ne _ _ (by omega), uz_ne _ _ (by omega), uz_ne _ _ (by omega), uz_same]
  · rw [uz_ne _ _ (by omega), uz_ne _ _ (by omega), uz_ne _ _ (by omega), uz_same]
  · rw [uz_ne _ _ (by omega), uz_ne _ _ (by omega), uz_same]
  · rw [uz_ne _ _ (by omega), uz_ne _ _ (by omega), uz_ne _ _ (by omega), uz_ne _ _ (by omega), uz_ne _ _ (by omega), uz_ne _ _ (by omega), clZ_at, if_pos (by omega)]
  · rw [uz_ne _ _ (by omega), uz_same]
  · rw [uz_ne _ _ (by omega), uz_ne _ _ (by omega), uz_ne _ _ (by omega), uz_ne _ _ (by omega), uz_ne _ _ (by omega), uz_ne _ _ (by omega), clZ_at, if_pos (by omega)]
  · rw [uz_ne _ _ (by omega), uz_ne _ _ (by omega), uz_ne _ _ (by omega), uz_ne _ _ (by omega), uz_ne _ _ (by omega), uz_ne _ _ (by omega), clZ_at, if_pos (by omega)]
theorem adZ_t {z : Row} {n : Nat} {s c v : Int} {l g : Nat} (hl : l ≠ n) (hg : g < 8) : tf (adZ z n s c v) l g = tf z l g := adZ_off (by omega) (by omega)
theorem adZ_WF {z : Row} {s c v : Int} (hW : WF z) (hs : 0 ≤ s ∧ s ≤ 1) (hc : isC c) (hv : 1 ≤ v ∧ v ≤ 20) (h12 : z 98 ≠ 12) (ha : tAt z c = -1) : WF (adZ z (z 98).toNat s c v) := by
  obtain ⟨⟨hh, hn, ht, hu, hg, hS⟩, ho, hC⟩ := hW
  have hn1 := hn.1
  have hn2 := hn.2
  have h98 : adZ z (z 98).toNat s c v 98 = z 98 + 1 := adZ_98
  have hn' := adZ_n (z := z) (n := (z 98).toNat) (s := s) (c := c) (v := v)
  have off : ∀ j : Nat, j < 98 ∨ 195 ≤ j → adZ z (z 98).toNat s c v j = z j := fun j hj => adZ_off (by omega) (by omega)
  have et : ∀ l g : Nat, (l : Int) < z 98 → g < 8 → tf (adZ z (z 98).toNat s c v) l g = tf z l g := fun l g hl hg => adZ_t (by omega) hg
  have et7 : ∀ l : Nat, l ≠ (z 98).toNat → tf (adZ z (z 98).toNat s c v) l 7 = tf z l 7 := fun l hl => adZ_t hl (by decide)
  generalize adZ z (z 98).toNat s c v = y at *
  have hc' : 0 ≤ c ∧ c < 96 := hc
  refine ⟨⟨fun j hj => ?_, ?_, fun l hl => ?_, fun k l hk hl k4 l4 e => ?_, ?_, fun l hl => ?_⟩, ?_, ?_⟩
  · rw [off j (by omega)]; exact hh j hj
  · unfold wfN; omega
  · rw [h98] at hl
    unfold wfT1
    rcases (by omega : (l : Int) < z 98 ∨ l = (z 98).toNat) with q | q
    · rw [et l 0 q (by decide), et l 1 q (by decide), et l 2 q (by decide), et l 3 q (by decide), et l 4 q (by decide), et l 5 q (by decide), et l 6 q (by decide), et l 7 q (by decide)]
      exact ht l q
    · rw [q]
      omega
  · rw [h98] at hk hl
    rcases (by omega : (k : Int) < z 98 ∨ k = (z 98).toNat) with q | q
    · rw [et k 4 q (by decide)] at k4
      rw [et k 1 q (by decide)] at e
      rcases (by omega : (l : Int) < z 98 ∨ l = (z 98).toNat) with u | u
      · rw [et l 4 u (by decide)] at l4
        rw [et l 1 u (by decide)] at e
        exact hu k l q u k4 l4 e
      · rw [u, hn'.2.1] at e
        exact absurd ⟨k4, e⟩ (tA_none.mp ha k (by omega))
    · rcases (by omega : (l : Int) < z 98 ∨ l = (z 98).toNat) with u | u
      · rw [et l 4 u (by decide)] at l4
        rw [et l 1 u (by decide), q, hn'.2.1] at e
        exact absurd ⟨l4, e.symm⟩ (tA_none.mp ha l (by omega))
      · rw [q, u]
  · unfold wfG at hg ⊢
    rw [off 96 (by omega), off 97 (by omega)]
    exact hg
  · rw [h98] at hl
    rcases (by omega : (l : Int) < z 98 ∨ l = (z 98).toNat) with q | q
    · rw [et l 4 q (by decide), et l 2 q (by decide), et l 5 q (by decide)]
      exact hS l q
    · rw [q]
      omega
  · rw [off 316 (by omega)]
    unfold wfO at ho ⊢
    rw [off 195 (by omega), h98]
    refine ⟨ho.1, fun k hk => ?_⟩
    have h30 := ho.1
    rw [off (196 + 4 * k + 1) (by omega), off (196 + 4 * k + 2) (by omega), off (196 + 4 * k + 3) (by omega)]
    have := ho.2 k hk
    exact ⟨⟨this.1.1, by omega⟩, this.2⟩
  · unfold wfC at hC ⊢
    rw [off 316 (by omega), off 317 (by omega), off 318 (by omega), off 319 (by omega), off 320 (by omega)]
    refine ⟨hC.1, hC.2.1, hC.2.2.1, hC.2.2.2.1, hC.2.2.2.2.1, fun l hl => ?_⟩
    rcases (by omega : l = (z 98).toNat ∨ l ≠ (z 98).toNat) with q | q
    · rw [q]; omega
    · rw [et7 l q]
      exact hC.2.2.2.2.2 l hl
theorem D_recruit {G : amG} {I : Nat → Nat → Int} {R : Nat → Nat → Option Nat} {L : Nat → Nat → Int64} {x c t : Nat} {Q : amR → amH → Prop} (hG : amG0 G) {b : Nat} (hB : wb b) (hRW : RW R b) {z : Row} (hW : WV I b z) (hn : 0 ≤ z 98 ∧ z 98 < 12) {s v w : Int} (hQ : ∀ J : Nat → Nat → Int, (∀ c : Nat, c < b ∨ b + 49 ≤ c → J c = I c) → WV J b (adZ z (z 98).toNat s v w) → (∀ k : Nat, odC J b k = odC I b k) → Q (Sum.inl (some (aI (z 98)))) (J, R, L, (SH sT), x, 0, 0)) : CT G sX8_recruit [aR (some b), aI s, aI v, aI w] (I, R, L, (SH sT), x, c, t) Q := by
  refine CT_of ok_X8_recruit hG (Nat.le_of_ble_eq_true rfl) ?_
  show X G mX8_recruit Q 0 _ [] (I, R, L, (SH sT), x, 0, 0)
  refine B_X8_recruit_0 ?_
  try dsimp only
  try simp (disch := omega) only [wN hW]
  refine ⟨sw0 hB, ?_⟩
  try simp (disch := omega) only [wN hW]
  refine ⟨sw0 hB, _, hRW.tr, ?_⟩
  refine ⟨_, _, sw4 hB, ⟨by decide, by decide⟩, ⟨by omega, by omega⟩, _, hRW.t (by omega), ?_⟩
  refine ⟨⟨Nat.zero_le _, Nat.zero_le _, Nat.le_of_ble_eq_true rfl⟩, swT hB (by omega), ?_⟩
  refine D_muster hG (swT hB (by omega)) (fun J j1 j2 => ?_)
  have hJ3 : J b 3 = z 98 := by rw [j1 _ (by omega)]; exact wN hW
  refine af_N0 rfl rfl rfl ?_
  try dsimp only
  try simp (disch := omega) only [wN hW]
  refine B_X8_recruit_19 ?_
  try dsimp only
  try simp (disch := omega) only [wN hW]
  refine ⟨rfl, ?_⟩
  refine ⟨sw0 hB, ?_⟩
  try simp (disch := omega) only [wN hW]
  rw [hJ3]
  refine ⟨by (refine ⟨?_, ?_⟩ <;> omega), ?_⟩
  refine ⟨sw0 hB, ?_⟩
  try simp (disch := omega) only [wN hW]
  have ad := adZ_n (z := z) (n := (z 98).toNat) (s := s) (c := v) (v := w)
  have off : ∀ j : Nat, j < 98 ∨ 195 ≤ j → adZ z (z 98).toNat s v w j = z j := fun j hj => adZ_off (by omega) (by omega)
  have F : ∀ c : Nat, c ≠ b → u2 J b 3 (z 98 + 1) c = J c := fun c hc => u2_off _ _ _ hc
  refine hQ _ (fun c hc => ?_) ⟨fun j hj => ?_, ⟨?_, ?_⟩, ?_, ?_, ?_, ?_, ?_, ⟨?_, ?_⟩, fun k f hk hf => ?_⟩ (fun k => ?_)
  · rw [F c (by omega), j1 c (by omega)]
  · rw [F _ (by omega), j1 _ (by omega), off j (by omega)]; exact wH hW j hj
  · rw [F _ (by omega), j1 _ (by omega), off 96 (by omega)]; exact wG0 hW
  · rw [F _ (by omega), j1 _ (by omega), off 97 (by omega)]; exact wG1 hW
  · rw [u2_same]; exact adZ_98.symm
  · rw [u2_ne _ _ (by omega), j1 _ (by omega), off 195 (by omega)]; exact wO hW
  · rw [u2_ne _ _ (by omega), j1 _ (by omega), off 316 (by omega)]; exact wTu hW
  · rw [u2_ne _ _ (by omega), j1 _ (by omega), off 317 (by omega)]; exact wGi hW
  · rw [u2_ne _ _ (by omega), j1 _ (by omega), off 318 (by omega)]; exact wMi hW
  · rw [F _ (by omega), j1 _ (by omega), off 319 (by omega)]; exact wL0 hW
  · rw [F _ (by omega), j1 _ (by omega), off 320 (by omega)]; exact wL1 hW
  · rw [adZ_98] at hk
    rw [F _ (by omega)]
    by_cases e : k = (z 98).toNat
    · rw [e]
      rcases (by omega : f = 0 ∨ f = 1 ∨ f = 2 ∨ f = 3 ∨ f = 4 ∨ f = 5 ∨ f = 6 ∨ f = 7) with q | q | q | q | q | q | q | q <;> subst q <;> omega
    · rw [adZ_t e hf, j1 _ (by omega)]
      exact wT hW k f (by omega) hf
  · unfold odC
    rw [F _ (by omega), j1 _ (by omega)]
