variable {sT : List (Nat × Nat)}
/-! ===== the class: texts ===== -/
theorem sx0 : (SH sT)[346]? = some (6, 0) := SH_at (by decide +kernel)
theorem sx1 : (SH sT)[347]? = some (20, 60) := SH_at (by decide +kernel)
theorem sx2 : (SH sT)[348]? = some (20, 10) := SH_at (by decide +kernel)
theorem sx3 : (SH sT)[349]? = some (20, 10) := SH_at (by decide +kernel)
def RT (R : Nat → Nat → Option Nat) : Prop := R 346 0 = some 347 ∧ R 346 2 = some 348 ∧ R 346 3 = some 349
/-! ===== the class: states are saved ===== -/
theorem sh99 : (SH sT)[99]? = some (1, 0) := SH_at (by decide +kernel)
theorem sh100 : (SH sT)[100]? = some (24, 5) := SH_at (by decide +kernel)
def hb (v : Nat) : Prop := v = 101 ∨ v = 150 ∨ v = 199 ∨ v = 248 ∨ v = 297
theorem hb_wb {v : Nat} (h : hb v) : wb v := Or.inr (Or.inr h)
theorem hb_le {v : Nat} (h : hb v) : 101 ≤ v ∧ v ≤ 297 := by rcases h with h | h | h | h | h <;> omega
theorem w1 : wb 1 := Or.inl rfl
theorem w50 : wb 50 := Or.inr (Or.inl rfl)
/-- in which order the saved wars lie -/
def HS (R : Nat → Nat → Option Nat) (s : Nat → Nat) : Prop := (∀ i : Nat, i < 5 → R 100 i = some (s i) ∧ hb (s i)) ∧ ∀ i j : Nat, i < 5 → j < 5 → s i = s j → i = j
abbrev rotS (s : Nat → Nat) : Nat → Nat := fun i => if i < 4 then s (i + 1) else s 0
theorem HS_rot {R R' : Nat → Nat → Option Nat} {s : Nat → Nat} (h : HS R s) (h1 : ∀ k : Nat, k < 4 → R' 100 k = some (s (k + 1))) (h2 : R' 100 4 = some (s 0)) : HS R' (rotS s) := by
  refine ⟨fun i hi => ?_, fun i j hi hj e => ?_⟩
  · unfold rotS
    split
    · rename_i q; exact ⟨h1 i q, (h.1 (i + 1) (by omega)).2⟩
    · rename_i q
      rw [show i = 4 by omega]
      exact ⟨h2, (h.1 0 (by omega)).2⟩
  · unfold rotS at e
    split at e
    · split at e
      · have := h.2 _ _ (by omega) (by omega) e; omega
      · have := h.2 _ _ (by omega) (by omega) e; omega
    · split at e
      · have := h.2 _ _ (by omega) (by omega) e; omega
      · omega
def SV (I : Nat → Nat → Int) (R : Nat → Nat → Option Nat) (n : Int) (zs : Nat → Row) : Prop := ∃ s : Nat → Nat, HS R s ∧ ∀ i : Nat, (i : Int) < n → WV I (s i) (zs i) ∧ WO I (s i) (zs i) ∧ (0 ≤ zs i 98 ∧ zs i 98 ≤ 12) ∧ 0 ≤ zs i 195 ∧ zs i 195 ≤ 30
def svZ (n : Int) (zs : Nat → Row) (z : Row) : Nat → Row := fun i => if n = 5 then (if (i : Int) < 4 then zs (i + 1) else z) else (if (i : Int) < n then zs i else z)
theorem WO_off {I J : Nat → Nat → Int} {b : Nat} {z : Row} (h : WO I b z) (h30 : 0 ≤ z 195 ∧ z 195 ≤ 30) (he : ∀ a : Nat, b ≤ a → a < b + 49 → J a = I a) : WO J b z := WO_keep h h30 (fun n hn => oc_congr (fun k hk => by
  unfold odC
  rw [he _ (by omega) (by omega)])) (fun _ _ _ => rfl)
theorem L_dropC {G : amG} {I : Nat → Nat → Int} {R : Nat → Nat → Option Nat} {L : Nat → Nat → Int64} {x : Nat} {Q : amR → amH → Prop} (hG : amG0 G) (hR0 : R 99 0 = some 100) {s : Nat → Nat} (hs : HS R s) {o : Nat} (hK : ∀ R' : Nat → Nat → Option Nat, (∀ a : Nat, a ≠ 100 → R' a = R a) → (∀ k : Nat, k < 4 → R' 100 k = some (s (k + 1))) → X G mX1_dropOldest Q 34 [some (aR (some 99)), some (aR (some o)), some (aI 5)] [] (I, R', L, (SH sT), x, 0, 0)) :
    ∀ (n : Nat) (i : Int) (R' : Nat → Nat → Option Nat), (1 ≤ i ∧ i ≤ 5 ∧ 5 - i < n) → (∀ a : Nat, a ≠ 100 → R' a = R a) → (∀ k : Nat, (k : Int) < i - 1 → R' 100 k = some (s (k + 1))) → (∀ k : Nat, i - 1 ≤ (k : Int) → k < 5 → R' 100 k = some (s k)) → X G mX1_dropOldest Q 9 [some (aR (some 99)), some (aR (some o)), some (aI i)] [] (I, R', L, (SH sT), x, 0, 0) := by
  intro n
  induction n with
  | zero =>
    intros
    exfalso; omega
  | succ n ih =>
    intro i R' h1 hR hlo hhi
    have hR9 : R' 99 0 = some 100 := by rw [hR 99 (by decide)]; exact hR0
    refine B_X1_dropOldest_9 ?_
    refine ⟨fun c => ?_, fun c => ?_⟩
    · have e : i = 5 := by omega
      rw [e] at hlo ⊢
      exact hK R' hR (fun k hk => hlo k (by omega))
    · refine ⟨sh99, _, hR9, by (refine ⟨?_, ?_⟩ <;> omega), sh99, _, hR9, _, _, sh100, ⟨by decide, by decide⟩, ⟨by omega, by omega⟩, _, hhi i.toNat (by omega) (by omega), _, _, sh100, ⟨by decide, by decide⟩, sw0 (hb_wb (hs.1 i.toNat (by omega)).2), ⟨by omega, by omega⟩, by (refine ⟨?_, ?_⟩ <;> omega), ?_⟩
      refine ih (i + 1) _ (by omega) (fun a ha => ?_) (fun k hk => ?_) (fun k h2 h3 => ?_)
      · funext j
        show u2 R' 100 _ _ a j = _
        rw [u2_ne _ _ (by omega), hR a ha]
      · show u2 R' 100 _ _ 100 k = _
        by_cases e : k = (i - 1).toNat
        · rw [e, u2_same, show (i - 1).toNat + 1 = i.toNat by omega]
        · rw [u2_ne _ _ (by omega)]
          exact hlo k (by omega)
      · show u2 R' 100 _ _ 100 k = _
        rw [u2_ne _ _ (by omega)]
        exact hhi k (by omega) h3
theorem D_dropOldest {G : amG} {I : Nat → Nat → Int} {R : Nat → Nat → Option Nat} {L : Nat → Nat → Int64} {x c t : Nat} {Q : amR → amH → Prop} (hG : amG0 G) (hR0 : R 99 0 = some 100) {s : Nat → Nat} (hs : HS R s) (hn : 1 ≤ I 99 1 ∧ I 99 1 ≤ 5) (hQ : ∀ R' : Nat → Nat → Option Nat, (∀ a : Nat, a ≠ 100 → R' a = R a) → HS R' (rotS s) → Q (Sum.inl none) (u2 I 99 1 (I 99 1 - 1), R', L, (SH sT), x, 0, 0)) : CT G sX1_dropOldest [aR (some 99)] (I, R, L, (SH sT), x, c, t) Q := by
  refine CT_of ok_X1_dropOldest hG (Nat.le_of_ble_eq_true rfl) ?_
  show X G mX1_dropOldest Q 0 _ [] (I, R, L, (SH sT), x, 0, 0)
  refine B_X1_dropOldest_0 ?_
  refine ⟨sh99, _, hR0, _, _, sh100, ⟨by decide, by decide⟩, ⟨by decide, by decide⟩, _, (hs.1 0 (by decide)).1, ?_⟩
  refine L_dropC hG hR0 hs (fun R' hR hl => ?_) 5 1 R (by omega) (fun _ _ => rfl) (fun k hk => by omega) (fun k _ hk => (hs.1 k hk).1)
  have hR9 : R' 99 0 = some 100 := by rw [hR 99 (by decide)]; exact hR0
  have hnn : amIn (I 99 1 - 1) := by (refine ⟨?_, ?_⟩ <;> omega)
  refine B_X1_dropOldest_34 ?_
  refine ⟨sh99, _, hR9, _, _, sh100, ⟨by decide, by decide⟩, sw0 (hb_wb (hs.1 0 (by decide)).2), ⟨by decide, by decide⟩, rfl, sh99, hnn, sh99, rfl, ?_⟩
  refine hQ _ (fun a ha => ?_) (HS_rot hs (fun k hk => ?_) ?_)
  · funext j
    show u2 R' 100 _ _ a j = _
    rw [u2_ne _ _ (by omega), hR a ha]
  · show u2 R' 100 _ _ 100 k = _
    rw [u2_ne _ _ (by omega)]
    exact hl k hk
  · show u2 R' 100 _ _ 100 4 = _
    rw [u2_same]
theorem wb_ne7 {b : Nat} (h : wb b) : b + 5 < 100 ∨ 100 < b := by rcases h with h | h | h | h | h | h | h <;> omega
theorem L_saveC {G : amG} {I : Nat → Nat → Int} {R : Nat → Nat → Option Nat} {L : Nat → Nat → Int64} {x : Nat} {Q : amR → amH → Prop} (hG : amG0 G) (hR0 : R 99 0 = some 100) {z : Row} (hW : WV I 1 z) (hO : WO I 1 z) (hz : 0 ≤ z 98 ∧ z 98 ≤ 12) (hzo : 0 ≤ z 195 ∧ z 195 ≤ 30) (hRW : ∀ b : Nat, wb b → RW R b) {s : Nat → Nat} (hs : HS R s) {m : Int} (hm : I 99 1 = m) (hm4 : 0 ≤ m ∧ m ≤ 4) {zs : Nat → Row} (hzs : ∀ i : Nat, (i : Int) < m → WV I (s i) (zs i) ∧ WO I (s i) (zs i) ∧ (0 ≤ zs i 98 ∧ zs i 98 ≤ 12) ∧ 0 ≤ zs i 195 ∧ zs i 195 ≤ 30) (hQ : ∀ J : Nat → Nat → Int, (∀ c : Nat, c < 99 ∨ 346 ≤ c → J c = I c) → J 99 1 = m + 1 → SV J R (m + 1) (fun i : Nat => if (i : Int) < m then zs i else z) → Q (Sum.inl none) (J, R, L, (SH sT), x, 0, 0)) : X G mX1_save Q 12 [some (aR (some 99)), some (aR (some 1))] [] (I, R, L, (SH sT), x, 0, 0) := by
  have hbm := hb_le (hs.1 m.toNat (by omega)).2
  refine B_X1_save_12 ?_
  try dsimp only
  try simp only [hm]
  refine ⟨sh99, _, hR0, ?_⟩
  refine ⟨sh99, ?_⟩
  try simp only [hm]
  refine ⟨_, _, sh100, ⟨by decide, by decide⟩, ⟨by omega, by omega⟩, _, (hs.1 m.toNat (by omega)).1, ?_⟩
  refine ⟨⟨Nat.zero_le _, Nat.zero_le _, Nat.le_of_ble_eq_true rfl⟩, (by first | exact sw0 w1 | exact sw0 (hb_wb (hs.1 m.toNat (by omega)).2)), ?_⟩
  refine D_copyWar hG (hb_wb (hs.1 m.toNat (by omega)).2) (hRW _ (hb_wb (hs.1 m.toNat (by omega)).2)) w1 (hRW 1 w1) (by omega) hW hz hzo (fun J j1 j2 j3 => ?_)
  have hJ : J 99 1 = m := by rw [j1 99 (by omega)]; exact hm
  refine af_N0 rfl rfl rfl ?_
  try dsimp only
  try simp only [hm]
  refine B_X1_save_25 ?_
  try dsimp only
  try simp only [hm]
  refine ⟨rfl, ?_⟩
  refine ⟨sh99, ?_⟩
  try simp only [hm]
  refine ⟨by (refine ⟨?_, ?_⟩ <;> omega), ?_⟩
  refine ⟨sh99, ?_⟩
  try simp only [hm]
  refine ⟨rfl, ?_⟩
  refine hQ _ (fun c hc => ?_) ?_ ⟨s, hs, fun i hi => ?_⟩
  · rw [u2_off _ _ _ (by omega), j1 c (by omega)]
  · rw [u2_same, hJ]
  · have F : ∀ c : Nat, c ≠ 99 → u2 J 99 1 (J 99 1 + 1) c = J c := fun c hc => u2_off _ _ _ hc
    have hbi := hb_le (hs.1 i (by omega)).2
    rcases (by omega : (i : Int) < m ∨ i = m.toNat) with q | q
    · have hne : s m.toNat ≠ s i := fun e => by have := hs.2 _ _ (by omega) (by omega) e; omega
      have hd := wb_ne (hb_wb (hs.1 m.toNat (by omega)).2) (hb_wb (hs.1 i (by omega)).2) hne
      obtain ⟨a1, a2, a3, a4⟩ := hzs i q
      show WV _ (s i) (if (i : Int) < m then zs i else z) ∧ WO _ (s i) (if (i : Int) < m then zs i else z) ∧ (0 ≤ (if (i : Int) < m then zs i else z) 98 ∧ (if (i : Int) < m then zs i else z) 98 ≤ 12) ∧ 0 ≤ (if (i : Int) < m then zs i else z) 195 ∧ (if (i : Int) < m then zs i else z) 195 ≤ 30
      rw [if_pos q]
      exact ⟨WV_off a1 a3.2 (fun a u1 u2 => by rw [F a (by omega), j1 a (by omega)]), WO_off a2 a4 (fun a u1 u2 => by rw [F a (by omega), j1 a (by omega)]), a3, a4⟩
    · show WV _ (s i) (if (i : Int) < m then zs i else z) ∧ WO _ (s i) (if (i : Int) < m then zs i else z) ∧ (0 ≤ (if (i : Int) < m then zs i else z) 98 ∧ (if (i : Int) < m then zs i else z) 98 ≤ 12) ∧ 0 ≤ (if (i : Int) < m then zs i else z) 195 ∧ (if (i : Int) < m then zs i else z) 195 ≤ 30
      rw [if_neg (by omega)]
      rw [← q] at j2 j3
      refine ⟨WV_off j2 hz.2 (fun a u1 u2 => F a (by omega)), WO_off (I := J) ?_ hzo (fun a u1 u2 => F a (by omega)), hz, hzo⟩
      unfold WO
      rw [← hO]
      unfold oc
      exact List.map_congr_left (fun k hk => j3 k (by have := List.mem_range.mp hk; omega))
theorem D_save {G : amG} {I : Nat → Nat → Int} {R : Nat → Nat → Option Nat} {L : Nat → Nat → Int64} {x c t : Nat} {Q : amR → amH → Prop} (hG : amG0 G) (hR0 : R 99 0 = some 100) {z : Row} (hW : WV I 1 z) (hO : WO I 1 z) (hz : 0 ≤ z 98 ∧ z 98 ≤ 12) (hzo : 0 ≤ z 195 ∧ z 195 ≤ 30) (hRW : ∀ b : Nat, wb b → RW R b) {n : Int} (hn : I 99 1 = n) (hn5 : 0 ≤ n ∧ n ≤ 5) {zs : Nat → Row} (hS : SV I R n zs) (hQ : ∀ (J : Nat → Nat → Int) (R' : Nat → Nat → Option Nat), (∀ c : Nat, c < 99 ∨ 346 ≤ c → J c = I c) → (∀ a : Nat, a ≠ 100 → R' a = R a) → J 99 1 = svN n → SV J R' (svN n) (svZ n zs z) → Q (Sum.inl none) (J, R', L, (SH sT), x, 0, 0)) : CT G sX1_save [aR (some 99), aR (some 1)] (I, R, L, (SH sT), x, c, t) Q := by
  refine CT_of ok_X1_save hG (Nat.le_of_ble_eq_true rfl) ?_
  show X G mX1_save Q 0 _ [] (I, R, L, (SH sT), x, 0, 0)
  obtain ⟨s, hs, hzs⟩ := hS
  refine B_X1_save_0 ?_
  try dsimp only
  try simp only [hn]
  refine ⟨sh99, ?_⟩
  try simp only [hn]
  refine ⟨fun c5_0 => ?_, fun c5_0 => ?_⟩
  · first
      | (have e5 : n = 5 := by omega
         have F : ∀ c : Nat, c ≠ 99 → u2 I 99 1 (n - 1) c = I c := fun c hc => u2_off _ _ _ hc
         have hR9 : R' 99 0 = some 100 := by rw [r1 99 (by decide)]; exact hR0
         have hRW' : ∀ b : Nat, wb b → RW R' b := fun b hb => by
           have hl := wb_ne7 hb
           obtain ⟨⟨q1, q2, q3, q4, q5, q6⟩, q7, q8⟩ := hRW b hb
           refine ⟨⟨?_, ?_, ?_, ?_, ?_, ?_⟩, fun i hi => ?_, fun i hi => ?_⟩
           · rw [r1 _ (by omega)]; exact q1
           · rw [r1 _ (by omega)]; exact q2
           · rw [r1 _ (by omega)]; exact q3
           · rw [r1 _ (by omega)]; exact q4
           · rw [r1 _ (by omega)]; exact q5
           · rw [r1 _ (by omega)]; exact q6
           · rw [r1 _ (by omega)]; exact q7 i hi
           · rw [r1 _ (by omega)]; exact q8 i hi
         refine L_saveC hG hR9 (z := z) (WV_off hW hz.2 (fun a u1 u2 => F a (by omega))) (WO_off hO hzo (fun a u1 u2 => F a (by omega))) hz hzo hRW' r2 (m := 4) (by rw [u2_same]; omega) (by decide) (zs := fun i => zs (i + 1)) (fun i hi => ?_) (fun J j1 j2 j3 => ?_)
         · have hbi := hb_le (hs.1 (i + 1) (by omega)).2
           obtain ⟨a1, a2, a3, a4⟩ := hzs (i + 1) (by omega)
           have er : rotS s i = s (i + 1) := by unfold rotS; exact if_pos (by omega)
           rw [er]
           exact ⟨WV_off a1 a3.2 (fun a u1 u2 => F a (by omega)), WO_off a2 a4 (fun a u1 u2 => F a (by omega)), a3, a4⟩
         · have e1 : svN n = 4 + 1 := by unfold svN; rw [if_pos e5]; rfl
           have e2 : svZ n zs z = fun i : Nat => if (i : Int) < 4 then zs (i + 1) else z := by
             funext i
             unfold svZ
             rw [if_pos e5]
           refine hQ J R' (fun c hc => by rw [j1 c hc, F c (by omega)]) r1 (by rw [e1]; exact j2) (by rw [e1, e2]; exact j3))
      | (have e5 : n ≠ 5 := by omega
         refine L_saveC hG hR0 hW hO hz hzo hRW hs hn (by omega) hzs (fun J j1 j2 j3 => ?_)
         have e1 : svN n = n + 1 := by unfold svN; rw [if_neg e5]
         have e2 : svZ n zs z = fun i : Nat => if (i : Int) < n then zs i else z := by
           funext i
           unfold svZ
           rw [if_neg e5]
         exact hQ J R j1 (fun _ _ => rfl) (by rw [e1]; exact j2) (by rw [e1, e2]; exact j3))
  · refine ⟨⟨Nat.zero_le _, Nat.zero_le _, Nat.le_of_ble_eq_true rfl⟩, sh99, ?_⟩
    refine D_dropOldest hG hR0 hs (by omega) (fun R' r1 r2 => ?_)
    refine af_N0 rfl rfl rfl ?_
    try dsimp only
    try simp only [hn]
    first
      | (have e5 : n = 5 := by omega
         have F : ∀ c : Nat, c ≠ 99 → u2 I 99 1 (n - 1) c = I c := fun c hc => u2_off _ _ _ hc
         have hR9 : R' 99 0 = some 100 := by rw [r1 99 (by decide)]; exact hR0
         have hRW' : ∀ b : Nat, wb b → RW R' b := fun b hb => by
           have hl := wb_ne7 hb
           obtain ⟨⟨q1, q2, q3, q4, q5, q6⟩, q7, q8⟩ := hRW b hb
           refine ⟨⟨?_, ?_, ?_, ?_, ?_, ?_⟩, fun i hi => ?_, fun i hi => ?_⟩
           · rw [r1 _ (by omega)]; exact q1
           · rw [r1 _ (by omega)]; exact q2
           · rw [r1 _ (by omega)]; exact q3
           · rw [r1 _ (by omega)]; exact q4
           · rw [r1 _ (by omega)]; exact q5
           · rw [r1 _ (by omega)]; exact q6
           · rw [r1 _ (by omega)]; exact q7 i hi
           · rw [r1 _ (by omega)]; exact q8 i hi
         refine L_saveC hG hR9 (z := z) (WV_off hW hz.2 (fun a u1 u2 => F a (by omega))) (WO_off hO hzo (fun a u1 u2 => F a (by omega))) hz hzo hRW' r2 (m := 4) (by rw [u2_same]; omega) (by decide) (zs := fun i => zs (i + 1)) (fun i hi => ?_) (fun J j1 j2 j3 => ?_)
         · have hbi := hb_le (hs.1 (i + 1) (by omega)).2
           obtain ⟨a1, a2, a3, a4⟩ := hzs (i + 1) (by omega)
           have er : rotS s i = s (i + 1) := by unfold rotS; exact if_pos (by omega)
           rw [er]
           exact ⟨WV_off a1 a3.2 (fun a u1 u2 => F a (by omega)), WO_off a2 a4 (fun a u1 u2 => F a (by omega)), a3, a4⟩
         · have e1 : svN n = 4 + 1 := by unfold svN; rw [if_pos e5]; rfl
           have e2 : svZ n zs z = fun i : Nat => if (i : Int) < 4 then zs (i + 1) else z := by
             funext i
             unfold svZ
             rw [if_pos e5]
           refine hQ J R' (fun c hc => by rw [j1 c hc, F c (by omega)]) r1 (by rw [e1]; exact j2) (by rw [e1, e2]; exact j3))
      | (have e5 : n ≠ 5 := by omega
         refine L_saveC hG hR0 hW hO hz hzo hRW hs hn (by omega) hzs (fun J j1 j2 j3 => ?_)
         have e1 : svN n = n + 1 := by unfold svN; rw [if_neg e5]
         have e2 : svZ n zs z = fun i : Nat => if (i : Int) < n then zs i else z := by
           funext i
           unfold svZ
           rw [if_neg e5]
         exact hQ J R j1 (fun _ _ => rfl) (by rw [e1]; exact j2) (by rw [e1, e2]; exact j3))
