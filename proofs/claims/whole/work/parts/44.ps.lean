/-! ===== a turn passes ===== -/
def wfB (z : Row) : Prop := wfH z ∧ wfN z ∧ wfT z ∧ wfU z ∧ wfG z ∧ wfS z
theorem wf_off {y z : Row} (h : ∀ i : Nat, i < 99 → y i = z i) (hh : wfH z) (hn : wfN z) (hg : wfG z) : wfH y ∧ wfN y ∧ wfG y := by
  refine ⟨fun j hj => ?_, ?_, ?_⟩
  · rw [h j (by omega)]; exact hh j hj
  · unfold wfN at *; rw [h 98 (by decide)]; exact hn
  · unfold wfG at *; rw [h 96 (by decide), h 97 (by decide)]; exact hg
theorem marchZ_B {z : Row} {k : Nat} (hk : (k : Int) < z 98) (hb : wfB z) : wfB (marchZ z k) := by
  obtain ⟨hh, hn, ht, hu, hg, hs⟩ := hb
  have hn2 := hn.2
  have h98 : marchZ z k 98 = z 98 := marchZ_off (Or.inl (by decide)) (by omega)
  obtain ⟨a1, a2, a3⟩ := wf_off (y := marchZ z k) (fun i hi => marchZ_off (Or.inl hi) (by omega)) hh hn hg
  refine ⟨a1, a2, marchZ_T hk hn ht, marchZ_U hk hn hu, a3, fun l hl => ?_⟩
  rw [h98] at hl
  rw [marchZ_t (by decide), marchZ_t (by decide), marchZ_t (by decide), if_neg (show ¬ (l = k ∧ 4 = 1) by omega), if_neg (show ¬ (l = k ∧ 2 = 1) by omega), if_neg (show ¬ (l = k ∧ 5 = 1) by omega)]
  exact hs l hl
theorem settZ_B {z : Row} {k : Nat} (hk : (k : Int) < z 98) (hb : wfB z) : wfB (settZ z k) := by
  obtain ⟨hh, hn, ht, hu, hg, hs⟩ := hb
  have hn2 := hn.2
  have h98 : settZ z k 98 = z 98 := settZ_off (Or.inl (by decide)) (by omega)
  obtain ⟨a1, a2, a3⟩ := wf_off (y := settZ z k) (fun i hi => settZ_off (Or.inl hi) (by omega)) hh hn hg
  refine ⟨a1, a2, settZ_T hk hn ht, settZ_U hk hn hu, a3, fun l hl => ?_⟩
  rw [h98] at hl
  have h4 := settZ_4 (z := z) (k := k) (l := l)
  have h := hs l hl
  rw [settZ_t (g := 2) (by decide) (by decide) (by decide), settZ_t (g := 5) (by decide) (by decide) (by decide)]
  omega
theorem fightZ_B {z : Row} (hb : wfB z) : wfB (fightZ z) := by
  obtain ⟨hh, hn, ht, hu, hg, hs⟩ := hb
  obtain ⟨a1, a2, a3⟩ := wf_off (y := fightZ z) (fun i hi => fightZ_off hn ht (Or.inl hi)) hh hn hg
  exact ⟨a1, a2, fightZ_T hn ht, fightZ_U hn ht hu, a3, fightZ_S hn ht hs⟩
def mchN (z : Row) : Nat → Row
  | 0 => z
  | k + 1 => marchZ (mchN z k) k
theorem mchN_s (z : Row) (k : Nat) : mchN z (k + 1) = marchZ (mchN z k) k := rfl
theorem mchN_inv {z : Row} (hb : wfB z) : ∀ n : Nat, (n : Int) ≤ z 98 → wfB (mchN z n) ∧ (∀ i : Nat, i < 99 ∨ 195 ≤ i → mchN z n i = z i) ∧ (∀ l g : Nat, g < 8 → g ≠ 1 → tf (mchN z n) l g = tf z l g) := by
  have hn2 := hb.2.1.2
  intro n
  induction n with
  | zero => intro _; exact ⟨hb, fun i _ => rfl, fun l g _ _ => rfl⟩
  | succ n ih =>
    intro hn
    obtain ⟨h1, h2, h3⟩ := ih (by omega)
    have h98 := h2 98 (by omega)
    rw [mchN_s]
    refine ⟨marchZ_B (by omega) h1, fun i hi => ?_, fun l g g8 g1 => ?_⟩
    · rw [marchZ_off hi (by omega), h2 i hi]
    · rw [marchZ_t g8, if_neg (fun w => g1 w.2), h3 l g g8 g1]
def setN (z : Row) : Nat → Row
  | 0 => z
  | k + 1 => settZ (setN z k) k
theorem setN_s (z : Row) (k : Nat) : setN z (k + 1) = settZ (setN z k) k := rfl
theorem setN_inv {z : Row} (hb : wfB z) : ∀ n : Nat, (n : Int) ≤ z 98 → wfB (setN z n) ∧ (∀ i : Nat, i < 99 ∨ 195 ≤ i → setN z n i = z i) ∧ (∀ l g : Nat, g < 8 → g ≠ 3 → g ≠ 4 → tf (setN z n) l g = tf z l g) := by
  have hn2 := hb.2.1.2
  intro n
  induction n with
  | zero => intro _; exact ⟨hb, fun i _ => rfl, fun l g _ _ _ => rfl⟩
  | succ n ih =>
    intro hn
    obtain ⟨h1, h2, h3⟩ := ih (by omega)
    have h98 := h2 98 (by omega)
    rw [setN_s]
    refine ⟨settZ_B (by omega) h1, fun i hi => ?_, fun l g g8 g3 g4 => ?_⟩
    · rw [settZ_off hi (by omega), h2 i hi]
    · rw [settZ_t g8 g3 g4, h3 l g g8 g3 g4]
/-- orders: each to a troop, to a cell, due at t or later -/
def wfO (z : Row) (t : Int) : Prop := (0 ≤ z 195 ∧ z 195 ≤ 30) ∧ ∀ k : Nat, (k : Int) < z 195 → (0 ≤ z (196 + 4 * k + 1) ∧ z (196 + 4 * k + 1) < z 98) ∧ isC (z (196 + 4 * k + 2)) ∧ t ≤ z (196 + 4 * k + 3) ∧ z (196 + 4 * k + 3) ≤ 1100
/-- counters -/
def wfC (z : Row) : Prop := (0 ≤ z 316 ∧ z 316 ≤ 1061) ∧ (0 ≤ z 317 ∧ z 317 ≤ 90000) ∧ (0 ≤ z 318 ∧ z 318 ≤ 30 * z 316) ∧ (0 ≤ z 319 ∧ z 319 ≤ 240 * z 316) ∧ (0 ≤ z 320 ∧ z 320 ≤ 240 * z 316) ∧ ∀ l : Nat, l < 12 → 0 ≤ tf z l 7 ∧ tf z l 7 ≤ 30 * z 316
/-- what holds of every row that stands between two calls, and between two turns -/
def WF (z : Row) : Prop := wfB z ∧ wfO z (z 316 + 1) ∧ wfC z
theorem wfO_12 {z : Row} {t : Int} (hn : wfN z) (ho : wfO z t) : ∀ k : Nat, (k : Int) < z 195 → (0 ≤ z (196 + 4 * k + 1) ∧ z (196 + 4 * k + 1) < 12) ∧ isC (z (196 + 4 * k + 2)) := fun k hk => by
  have h := ho.2 k hk
  have := hn.2
  exact ⟨⟨h.1.1, by omega⟩, h.2.1⟩
theorem wfO_mem {z : Row} {t : Int} (ho : wfO z t) {d : OD} (hd : d ∈ os z (z 195).toNat) : (0 ≤ d.2.1 ∧ d.2.1 < z 98) ∧ isC d.2.2.1 ∧ t ≤ d.2.2.2 ∧ d.2.2.2 ≤ 1100 := by
  obtain ⟨k, hk, e⟩ := os_mem.mp hd
  have h := ho.2 k (by omega)
  rw [← e]
  exact h
theorem wfO_of {z : Row} {t : Int} (h30 : 0 ≤ z 195 ∧ z 195 ≤ 30) (h : ∀ d : OD, d ∈ os z (z 195).toNat → (0 ≤ d.2.1 ∧ d.2.1 < z 98) ∧ isC d.2.2.1 ∧ t ≤ d.2.2.2 ∧ d.2.2.2 ≤ 1100) : wfO z t :=
  ⟨h30, fun k hk => h (od z k) (os_mem.mpr ⟨k, by omega, rfl⟩)⟩
theorem comeAll_B {z : Row} (hb : wfB z) (ho : wfO z (z 316)) : wfB (comeAllZ z) ∧ wfO (comeAllZ z) (z 316 + 1) := by
  obtain ⟨hh, hn, ht, hu, hg, hs⟩ := hb
  have hn2 := hn.2
  have ho12 := wfO_12 hn ho
  obtain ⟨c1, c2, c3, c4, c5⟩ := comeAll_all ho12 ho.1
  have h98 := c1 98 (by omega) (by decide)
  obtain ⟨a1, a2, a3⟩ := wf_off (y := comeAllZ z) (fun i hi => c1 i (Or.inl hi) (by omega)) hh hn hg
  refine ⟨⟨a1, a2, fun l hl => ?_, ?_, a3, fun l hl => ?_⟩, ?_⟩
  · rw [h98] at hl
    have h := ht l hl
    unfold wfT1 at h ⊢
    have h3 := c4 l (by omega) (by unfold isC; omega)
    have h7 := c5 l (by omega)
    unfold isC at h3
    rw [c3 l 0 (by omega) (by decide) (by decide) (by decide), c3 l 1 (by omega) (by decide) (by decide) (by decide), c3 l 2 (by omega) (by decide) (by decide) (by decide), c3 l 4 (by omega) (by decide) (by decide) (by decide), c3 l 5 (by omega) (by decide) (by decide) (by decide), c3 l 6 (by omega) (by decide) (by decide) (by decide)]
    omega
  · refine wfU_of h98 (fun l hl => c3 l 1 (by omega) (by decide) (by decide) (by decide)) (fun l hl h => ?_) hu
    rw [c3 l 4 (by omega) (by decide) (by decide) (by decide)] at h
    exact h
  · rw [h98] at hl
    rw [c3 l 4 (by omega) (by decide) (by decide) (by decide), c3 l 2 (by omega) (by decide) (by decide) (by decide), c3 l 5 (by omega) (by decide) (by decide) (by decide)]
    exact hs l hl
  · refine wfO_of (by have := ho.1; omega) (fun d hd => ?_)
    rw [(comeAll_os ho12 ho.1).1] at hd
    obtain ⟨m1, m2⟩ := List.mem_filter.mp hd
    have h := wfO_mem ho m1
    have m3 : d.2.2.2 ≠ z 316 := by simpa using m2
    rw [h98]
    refine ⟨h.1, h.2.1, ?_, h.2.2.2⟩
    omega
theorem comeAll_C {z : Row} (hn : wfN z) (ho : wfO z (z 316)) : (z 318 ≤ comeAllZ z 318 ∧ comeAllZ z 318 ≤ z 318 + 30) ∧ (∀ l : Nat, l < 12 → tf z l 7 ≤ tf (comeAllZ z) l 7 ∧ tf (comeAllZ z) l 7 ≤ tf z l 7 + 30) := by
  have h := cm_inv (wfO_12 hn ho) ho.1.2 (z 195).toNat (by have := ho.1; omega)
  have h30 := ho.1
  refine ⟨?_, fun l hl => ?_⟩
  · have e : comeAllZ z 318 = (cmS z (z 195).toNat).1 318 := uz_ne _ _ (by omega)
    rw [e]
    have := h.2.2.1
    omega
  · have e : tf (comeAllZ z) l 7 = tf (cmS z (z 195).toNat).1 l 7 := tf_off (by omega) hl (by decide)
    rw [e]
    have := h.2.2.2.2.1 l hl
    omega
theorem fightZ_C {z : Row} (hn : wfN z) (ht : wfT z) : (z 319 ≤ fightZ z 319 ∧ fightZ z 319 ≤ z 319 + 240) ∧ (z 320 ≤ fightZ z 320 ∧ fightZ z 320 ≤ z 320 + 240) ∧ ∀ l : Nat, l < 12 → tf (fightZ z) l 7 = tf z l 7 := by
  have hn1 := hn.1
  have hn2 := hn.2
  have hT := fA_T ht hn (z 98).toNat
  have h98 := fA_N (z := z) (z 98).toNat
  have hA := fA_inv (z := z) (z 98).toNat
  have hB := fB_inv (y := fA z (z 98).toNat) (z 98).toNat (by omega) (fun l hl => ⟨(hT l (by omega)).1, (hT l (by omega)).2.2.2.2.2.2.1⟩)
  have e1 := hA.1 319 (by omega)
  have e2 := hA.1 320 (by omega)
  refine ⟨?_, ?_, fun l hl => ?_⟩
  · show z 319 ≤ fB _ _ 319 ∧ fB _ _ 319 ≤ z 319 + 240
    have := hB.2.2.1
    omega
  · show z 320 ≤ fB _ _ 320 ∧ fB _ _ 320 ≤ z 320 + 240
    have := hB.2.2.2
    omega
  · show tf (fB _ _) l 7 = _
    rw [hB.2.1 l 7 hl (by decide), if_neg (by omega), if_neg (by omega)]
    exact hA.2.1 l 7 (by decide) (by decide)
/-- the turn is counted, orders come, all march -/
def psA (z : Row) : Row := mchN (comeAllZ (uz z 316 (z 316 + 1))) (z 98).toNat
def passZ (z : Row) : Row := setN (fightZ (psA z)) (z 98).toNat
theorem tick_B {z : Row} (h : WF z) : wfB (uz z 316 (z 316 + 1)) ∧ wfO (uz z 316 (z 316 + 1)) (uz z 316 (z 316 + 1) 316) := by
  obtain ⟨⟨hh, hn, ht, hu, hg, hs⟩, ho, hc⟩ := h
  have hn2 := hn.2
  have e98 : uz z 316 (z 316 + 1) 98 = z 98 := uz_ne _ _ (by decide)
  obtain ⟨a1, a2, a3⟩ := wf_off (y := uz z 316 (z 316 + 1)) (fun i hi => uz_ne _ _ (by omega)) hh hn hg
  refine ⟨⟨a1, a2, fun l hl => ?_, wfU_of e98 (fun l hl => tf_off (by omega) (by omega) (by decide)) (fun l hl h => ?_) hu, a3, fun l hl => ?_⟩, ?_⟩
  · rw [e98] at hl
    have := ht l hl
    unfold wfT1 at this ⊢
    rw [tf_off (by omega) (by omega) (by decide), tf_off (by omega) (by omega) (by decide), tf_off (by omega) (by omega) (by decide), tf_off (by omega) (by omega) (by decide), tf_off (by omega) (by omega) (by decide), tf_off (by omega) (by omega) (by decide), tf_off (by omega) (by omega) (by decide), tf_off (by omega) (by omega) (by decide)]
    exact this
  · rw [tf_off (by omega) (by omega) (by decide)] at h
    exact h
  · rw [e98] at hl
    rw [tf_off (by omega) (by omega) (by decide), tf_off (by omega) (by omega) (by decide), tf_off (by omega) (by omega) (by decide)]
    exact hs l hl
  · rw [uz_same]
    have e5 : uz z 316 (z 316 + 1) 195 = z 195 := uz_ne _ _ (by decide)
    refine ⟨by rw [e5]; exact ho.1, fun k hk => ?_⟩
    rw [e5] at hk
    have h30 := ho.1.2
    rw [e98, uz_ne (k := 316) (j := 196 + 4 * k + 1) _ _ (by omega), uz_ne (k := 316) (j := 196 + 4 * k + 2) _ _ (by omega), uz_ne (k := 316) (j := 196 + 4 * k + 3) _ _ (by omega)]
    exact ho.2 k hk
theorem psA_inv {z : Row} (h : WF z) : wfB (psA z) ∧ wfO (psA z) (z 316 + 2) ∧ (∀ i : Nat, i < 99 ∨ (317 ≤ i ∧ i ≠ 318) → psA z i = z i) ∧ psA z 316 = z 316 + 1 ∧ (z 318 ≤ psA z 318 ∧ psA z 318 ≤ z 318 + 30) ∧ ∀ l : Nat, l < 12 → tf z l 7 ≤ tf (psA z) l 7 ∧ tf (psA z) l 7 ≤ tf z l 7 + 30 := by
  obtain ⟨b0, o0⟩ := tick_B h
  have e98 : uz z 316 (z 316 + 1) 98 = z 98 := uz_ne _ _ (by decide)
  have e16 : uz z 316 (z 316 + 1) 316 = z 316 + 1 := uz_same _ _ _
  have e18 : uz z 316 (z 316 + 1) 318 = z 318 := uz_ne _ _ (by decide)
  have et : ∀ l : Nat, l < 12 → tf (uz z 316 (z 316 + 1)) l 7 = tf z l 7 := fun l hl => tf_off (by omega) hl (by decide)
  have ei : ∀ i : Nat, i ≠ 316 → uz z 316 (z 316 + 1) i = z i := fun i hi => uz_ne _ _ hi
  unfold psA
  generalize uz z 316 (z 316 + 1) = y at *
  obtain ⟨b1, o1⟩ := comeAll_B b0 o0
  obtain ⟨c1, c2, c3, c4, c5⟩ := comeAll_all (wfO_12 b0.2.1 o0) o0.1
  obtain ⟨d1, d2⟩ := comeAll_C b0.2.1 o0
  have f98 := c1 98 (by omega) (by decide)
  obtain ⟨m1, m2, m3⟩ := mchN_inv b1 (z 98).toNat (by have := h.1.2.1.1; omega)
  refine ⟨m1, ?_, fun i hi => ?_, ?_, ?_, fun l hl => ?_⟩
  · have q1 := m2 195 (by omega)
    refine ⟨by rw [q1]; exact o1.1, fun k hk => ?_⟩
    rw [q1] at hk
    rw [m2 98 (by omega), m2 (196 + 4 * k + 1) (by omega), m2 (196 + 4 * k + 2) (by omega), m2 (196 + 4 * k + 3) (by omega)]
    have := o1.2 k hk
    rw [e16] at this
    refine ⟨this.1, this.2.1, ?_, this.2.2.2⟩
    omega
  · rw [m2 i (by omega), c1 i (by omega) (by omega), ei i (by omega)]
  · rw [m2 316 (by omega), c1 316 (by omega) (by decide), e16]
  · rw [m2 318 (by omega)]
    omega
  · rw [m3 l 7 (by decide) (by decide)]
    have := d2 l hl
    rw [et l hl] at this
    exact this
theorem pass_inv {z : Row} (h : WF z) (hm : z 316 ≤ 1060) : WF (passZ z) ∧ passZ z 316 = z 316 + 1 ∧ passZ z 98 = z 98 ∧ passZ z 317 = z 317 ∧ (∀ i : Nat, i < 99 → passZ z i = z i) := by
  obtain ⟨b1, o1, i1, t1, k1, l1⟩ := psA_inv h
  have hC := h.2.2
  have b2 := fightZ_B b1
  obtain ⟨f1, f2, f3⟩ := fightZ_C b1.2.1 b1.2.2.1
  have fo : ∀ i : Nat, i < 99 ∨ (195 ≤ i ∧ i ≠ 319 ∧ i ≠ 320) → fightZ (psA z) i = psA z i := fun i hi => fightZ_off b1.2.1 b1.2.2.1 hi
  have f98 := fo 98 (by omega)
  have g98 := i1 98 (by omega)
  obtain ⟨s1, s2, s3⟩ := setN_inv b2 (z 98).toNat (by have := h.1.2.1.1; omega)
  have p16 : passZ z 316 = z 316 + 1 := by
    show setN _ _ 316 = _
    rw [s2 316 (by omega), fo 316 (by omega), t1]
  have hC' := hC
  unfold wfC at hC'
  refine ⟨⟨s1, ?_, ?_⟩, p16, ?_, ?_, fun i hi => ?_⟩
  · rw [p16]
    have q1 : passZ z 195 = psA z 195 := by
      show setN _ _ 195 = _
      rw [s2 195 (by omega), fo 195 (by omega)]
    refine ⟨by rw [q1]; exact o1.1, fun k hk => ?_⟩
    rw [q1] at hk
    have h30 := o1.1.2
    have q2 : ∀ i : Nat, 195 ≤ i ∧ i ≠ 319 ∧ i ≠ 320 → passZ z i = psA z i := fun i hi => by
      show setN _ _ i = _
      rw [s2 i (by omega), fo i (by omega)]
    have q3 : passZ z 98 = psA z 98 := by
      show setN _ _ 98 = _
      rw [s2 98 (by omega), fo 98 (by omega)]
    rw [q3, q2 (196 + 4 * k + 1) (by omega), q2 (196 + 4 * k + 2) (by omega), q2 (196 + 4 * k + 3) (by omega)]
    have := o1.2 k hk
    refine ⟨this.1, this.2.1, ?_, this.2.2.2⟩
    omega
  · unfold wfC
    rw [p16]
    have a7 : passZ z 317 = z 317 := by
      show setN _ _ 317 = _
      rw [s2 317 (by omega), fo 317 (by omega), i1 317 (by omega)]
    have a8 : passZ z 318 = psA z 318 := by
      show setN _ _ 318 = _
      rw [s2 318 (by omega), fo 318 (by omega)]
    have a9 : passZ z 319 = fightZ (psA z) 319 := s2 319 (by omega)
    have a0 : passZ z 320 = fightZ (psA z) 320 := s2 320 (by omega)
    have j9 := i1 319 (by omega)
    have j0 := i1 320 (by omega)
    refine ⟨by omega, by omega, by omega, by omega, by omega, fun l hl => ?_⟩
    have a1 : tf (passZ z) l 7 = tf (psA z) l 7 := by
      show tf (setN _ _) l 7 = _
      rw [s3 l 7 (by decide) (by decide) (by decide), f3 l hl]
    have := l1 l hl
    have := hC.2.2.2.2.2 l hl
    rw [a1]
    omega
  · show setN _ _ 98 = _
    rw [s2 98 (by omega), f98, g98]
  · show setN _ _ 317 = _
    rw [s2 317 (by omega), fo 317 (by omega), i1 317 (by omega)]
  · show setN _ _ i = _
    rw [s2 i (by omega), fo i (by omega), i1 i (by omega)]
