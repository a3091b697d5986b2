/-! ===== the orders under way as a list ===== -/
abbrev OD : Type := Int × Int × Int × Int
def od (z : Row) (k : Nat) : OD := (z (196 + 4 * k), z (196 + 4 * k + 1), z (196 + 4 * k + 2), z (196 + 4 * k + 3))
def os (z : Row) (n : Nat) : List OD := (List.range n).map (od z)
theorem os_s (z : Row) (n : Nat) : os z (n + 1) = os z n ++ [od z n] := by
  unfold os
  rw [List.range_succ, List.map_append]
  rfl
theorem os_len (z : Row) (n : Nat) : (os z n).length = n := by
  unfold os
  rw [List.length_map, List.length_range]
theorem os_mem {z : Row} {n : Nat} {d : OD} : d ∈ os z n ↔ ∃ k : Nat, k < n ∧ od z k = d := by
  unfold os
  rw [List.mem_map]
  exact ⟨fun ⟨k, h1, h2⟩ => ⟨k, List.mem_range.mp h1, h2⟩, fun ⟨k, h1, h2⟩ => ⟨k, List.mem_range.mpr h1, h2⟩⟩
theorem od_congr {y z : Row} {k l : Nat} (h : ∀ i : Nat, i < 4 → y (196 + 4 * k + i) = z (196 + 4 * l + i)) : od y k = od z l := by
  have h0 := h 0 (by decide)
  have h1 := h 1 (by decide)
  have h2 := h 2 (by decide)
  have h3 := h 3 (by decide)
  simp only [Nat.add_zero] at h0
  unfold od
  rw [h0, h1, h2, h3]
theorem os_congr {y z : Row} {n : Nat} (h : ∀ i : Nat, 196 ≤ i → i < 196 + 4 * n → y i = z i) : os y n = os z n := by
  unfold os
  exact List.map_congr_left (fun k hk => by
    have := List.mem_range.mp hk
    exact od_congr (fun i hi => h _ (by omega) (by omega)))
/-- alike but for the orders -/
def eqO (y z : Row) : Prop := ∀ i : Nat, i < 195 ∨ 316 ≤ i → y i = z i
theorem eqO_t {y z : Row} (h : eqO y z) {l g : Nat} (hl : l < 12) (hg : g < 8) : tf y l g = tf z l g := h _ (by omega)
theorem comeZ_eqO {y z : Row} (h : eqO y z) {k : Nat} (hk : k < 12) (v : Int) : eqO (comeZ y k v) (comeZ z k v) := fun i hi => by
  have h4 := h (99 + 8 * k + 4) (by omega)
  have h7 := h (99 + 8 * k + 7) (by omega)
  have h8 := h 318 (by omega)
  have h0 := h i hi
  unfold comeZ
  rw [h4, h7, h8]
  split
  · unfold uz
    rw [h0]
  · unfold uz
    rw [h0]
/-- orders come one after the other -/
def cmF (z : Row) (l : List OD) : Row := l.foldl (fun y d => comeZ y d.2.1.toNat d.2.2.1) z
theorem cmF_snoc (z : Row) (l : List OD) (d : OD) : cmF z (l ++ [d]) = comeZ (cmF z l) d.2.1.toNat d.2.2.1 := by
  unfold cmF
  rw [List.foldl_append]
  rfl
theorem cm_os {z : Row} (ho : ∀ k : Nat, (k : Int) < z 195 → (0 ≤ z (196 + 4 * k + 1) ∧ z (196 + 4 * k + 1) < 12) ∧ isC (z (196 + 4 * k + 2))) (h30 : z 195 ≤ 30) : ∀ k : Nat, (k : Int) ≤ z 195 →
    os (cmS z k).1 (cmS z k).2.toNat = (os z k).filter (fun d => !decide (d.2.2.2 = z 316)) ∧
    eqO (cmS z k).1 (cmF z ((os z k).filter (fun d => decide (d.2.2.2 = z 316)))) := by
  intro k
  induction k with
  | zero => intro _; exact ⟨rfl, fun i _ => rfl⟩
  | succ k ih =>
    intro hk
    obtain ⟨i1, i2⟩ := ih (by omega)
    obtain ⟨h1, h2, h3, h4, h5, h6⟩ := cm_inv ho h30 k (by omega)
    have hok := ho k (by omega)
    have e1 := h2 (196 + 4 * k + 1) (by omega) (by omega)
    have e2 := h2 (196 + 4 * k + 2) (by omega) (by omega)
    have e3 := h2 (196 + 4 * k + 3) (by omega) (by omega)
    have e6 := h2 316
    have eo : od (cmS z k).1 k = od z k := od_congr (fun i hi => h2 _ (by omega) (by omega))
    have t6 : (cmS z k).1 316 = z 316 := h2 316 (by omega) (by omega)
    rw [cmS_s, os_s, List.filter_append, List.filter_append]
    have dd : (od z k).2.2.2 = z (196 + 4 * k + 3) := rfl
    generalize cmS z k = S at *
    split
    · rename_i q
      have q2 : (od z k).2.2.2 = z 316 := by rw [dd, ← e3, ← t6]; exact q
      have f1 : [od z k].filter (fun d => !decide (d.2.2.2 = z 316)) = [] := by
        rw [List.filter_cons_of_neg (by rw [q2]; simp)]; rfl
      have f2 : [od z k].filter (fun d => decide (d.2.2.2 = z 316)) = [od z k] := by
        rw [List.filter_cons_of_pos (by rw [q2]; simp)]; rfl
      rw [f1, f2, List.append_nil, cmF_snoc]
      have hkt : (z (196 + 4 * k + 1)).toNat < 12 := by omega
      refine ⟨?_, ?_⟩
      · rw [← i1]
        refine os_congr (fun i ha hb => ?_)
        rw [e1]
        exact comeZ_off hkt (by omega) (by omega)
      · rw [e1, e2]
        exact comeZ_eqO i2 hkt _
    · rename_i q
      have q2 : ¬ (od z k).2.2.2 = z 316 := by rw [dd, ← e3, ← t6]; exact q
      have f1 : [od z k].filter (fun d => !decide (d.2.2.2 = z 316)) = [od z k] := by
        rw [List.filter_cons_of_pos (by simp [q2])]; rfl
      have f2 : [od z k].filter (fun d => decide (d.2.2.2 = z 316)) = [] := by
        rw [List.filter_cons_of_neg (by simp [q2])]; rfl
      rw [f1, f2, List.append_nil]
      have hc := cpZ_at (z := S.1) (k := k) (l := S.2.toNat) (by omega) 4 (by decide)
      refine ⟨?_, fun i hi => ?_⟩
      · show os (cpZ S.1 k S.2.toNat 4) (S.2 + 1).toNat = _
        rw [show (S.2 + 1).toNat = S.2.toNat + 1 by omega, os_s]
        have a1 : os (cpZ S.1 k S.2.toNat 4) S.2.toNat = os S.1 S.2.toNat := os_congr (fun i ha hb => by rw [hc i, if_neg (by omega)])
        have a2 : od (cpZ S.1 k S.2.toNat 4) S.2.toNat = od S.1 k := od_congr (fun i hi => by rw [hc _, if_pos (by omega)]; exact congrArg S.1 (by omega))
        rw [a1, a2, i1, eo]
      · show cpZ S.1 k S.2.toNat 4 i = _
        rw [hc i, if_neg (by omega)]
        exact i2 i hi
/-- what is left, and what has come -/
theorem comeAll_os {z : Row} (ho : ∀ k : Nat, (k : Int) < z 195 → (0 ≤ z (196 + 4 * k + 1) ∧ z (196 + 4 * k + 1) < 12) ∧ isC (z (196 + 4 * k + 2))) (h30 : 0 ≤ z 195 ∧ z 195 ≤ 30) :
    os (comeAllZ z) (comeAllZ z 195).toNat = (os z (z 195).toNat).filter (fun d => !decide (d.2.2.2 = z 316)) ∧
    eqO (comeAllZ z) (cmF z ((os z (z 195).toNat).filter (fun d => decide (d.2.2.2 = z 316)))) := by
  have h := cm_os ho h30.2 (z 195).toNat (by omega)
  have e : comeAllZ z 195 = (cmS z (z 195).toNat).2 := uz_same _ _ _
  refine ⟨?_, fun i hi => ?_⟩
  · rw [e, ← h.1]
    exact os_congr (fun i ha hb => uz_ne _ _ (by omega))
  · show uz _ 195 _ i = _
    rw [uz_ne _ _ (by omega)]
    exact h.2 i hi
/-! ===== a turn passes ===== -/
def wfB (z : Row) : Prop := wfH z ∧ wfN z ∧ wfT z ∧ wfU z ∧ wfG z ∧ wfS z
theorem wf_off {y z : Row} (h : ∀ i : Nat, i < 99 → y i = z i) (hh : wfH z) (hn : wfN z) (hg : wfG z) : wfH y ∧ wfN y ∧ wfG y := by
  refine ⟨fun j hj => ?_, ?_, ?_⟩
  · rw [h j (by omega)]; exact hh j hj
  · unfold wfN at *; rw [h 98 (by decide)]; exact hn
  · unfold wfG at *; rw [h 96 (by decide), h 97 (by decide)]; exact hg
theorem marchZ_B {z : Row} {k : Nat} (hk : (k : Int) < z 98) (hb : wfB z) : wfB (marchZ z k) := by
  obtain ⟨hh, hn, ht, hu, hg, hs⟩ := hb
  have hn2 := hn.2
  have h98 : marchZ z k 98 = z 98 := marchZ_off (Or.inl (by decide)) (by omega)
  obtain ⟨a1, a2, a3⟩ := wf_off (y := marchZ z k) (fun i hi => marchZ_off (Or.inl hi) (by omega)) hh hn hg
  refine ⟨a1, a2, marchZ_T hk hn ht, marchZ_U hk hn hu, a3, fun l hl => ?_⟩
  rw [h98] at hl
  rw [marchZ_t (by decide), marchZ_t (by decide), marchZ_t (by decide), if_neg (show ¬ (l = k ∧ 4 = 1) by omega), if_neg (show ¬ (l = k ∧ 2 = 1) by omega), if_neg (show ¬ (l = k ∧ 5 = 1) by omega)]
  exact hs l hl
theorem settZ_B {z : Row} {k : Nat} (hk : (k : Int) < z 98) (hb : wfB z) : wfB (settZ z k) := by
  obtain ⟨hh, hn, ht, hu, hg, hs⟩ := hb
  have hn2 := hn.2
  have h98 : settZ z k 98 = z 98 := settZ_off (Or.inl (by decide)) (by omega)
  obtain ⟨a1, a2, a3⟩ := wf_off (y := settZ z k) (fun i hi => settZ_off (Or.inl hi) (by omega)) hh hn hg
  refine ⟨a1, a2, settZ_T hk hn ht, settZ_U hk hn hu, a3, fun l hl => ?_⟩
  rw [h98] at hl
  have h4 := settZ_4 (z := z) (k := k) (l := l)
  have h := hs l hl
  rw [settZ_t (g := 2) (by decide) (by decide) (by decide), settZ_t (g := 5) (by decide) (by decide) (by decide)]
  omega
theorem fightZ_B {z : Row} (hb : wfB z) : wfB (fightZ z) := by
  obtain ⟨hh, hn, ht, hu, hg, hs⟩ := hb
  obtain ⟨a1, a2, a3⟩ := wf_off (y := fightZ z) (fun i hi => fightZ_off hn ht (Or.inl hi)) hh hn hg
  exact ⟨a1, a2, fightZ_T hn ht, fightZ_U hn ht hu, a3, fightZ_S hn ht hs⟩
def mchN (z : Row) : Nat → Row
  | 0 => z
  | k + 1 => marchZ (mchN z k) k
theorem mchN_s (z : Row) (k : Nat) : mchN z (k + 1) = marchZ (mchN z k) k := rfl
theorem mchN_inv {z : Row} (hb : wfB z) : ∀ n : Nat, (n : Int) ≤ z 98 → wfB (mchN z n) ∧ (∀ i : Nat, i < 99 ∨ 195 ≤ i → mchN z n i = z i) ∧ (∀ l g : Nat, g < 8 → g ≠ 1 → tf (mchN z n) l g = tf z l g) := by
  have hn2 := hb.2.1.2
  intro n
  induction n with
  | zero => intro _; exact ⟨hb, fun i _ => rfl, fun l g _ _ => rfl⟩
  | succ n ih =>
    intro hn
    obtain ⟨h1, h2, h3⟩ := ih (by omega)
    have h98 := h2 98 (by omega)
    rw [mchN_s]
    refine ⟨marchZ_B (by omega) h1, fun i hi => ?_, fun l g g8 g1 => ?_⟩
    · rw [marchZ_off hi (by omega), h2 i hi]
    · rw [marchZ_t g8, if_neg (fun w => g1 w.2), h3 l g g8 g1]
def setN (z : Row) : Nat → Row
  | 0 => z
  | k + 1 => settZ (setN z k) k
theorem setN_s (z : Row) (k : Nat) : setN z (k + 1) = settZ (setN z k) k := rfl
theorem setN_inv {z : Row} (hb : wfB z) : ∀ n : Nat, (n : Int) ≤ z 98 → wfB (setN z n) ∧ (∀ i : Nat, i < 99 ∨ 195 ≤ i → setN z n i = z i) ∧ (∀ l g : Nat, g < 8 → g ≠ 3 → g ≠ 4 → tf (setN z n) l g = tf z l g) := by
  have hn2 := hb.2.1.2
  intro n
  induction n with
  | zero => intro _; exact ⟨hb, fun i _ => rfl, fun l g _ _ _ => rfl⟩
  | succ n ih =>
    intro hn
    obtain ⟨h1, h2, h3⟩ := ih (by omega)
    have h98 := h2 98 (by omega)
    rw [setN_s]
    refine ⟨settZ_B (by omega) h1, fun i hi => ?_, fun l g g8 g3 g4 => ?_⟩
    · rw [settZ_off hi (by omega), h2 i hi]
    · rw [settZ_t g8 g3 g4, h3 l g g8 g3 g4]
/-- orders: each to a troop, to a cell, due at t or later -/
def wfO (z : Row) (t : Int) : Prop := (0 ≤ z 195 ∧ z 195 ≤ 30) ∧ ∀ k : Nat, (k : Int) < z 195 → (0 ≤ z (196 + 4 * k + 1) ∧ z (196 + 4 * k + 1) < z 98) ∧ isC (z (196 + 4 * k + 2)) ∧ t ≤ z (196 + 4 * k + 3) ∧ z (196 + 4 * k + 3) ≤ 1100
/-- counters -/
def wfC (z : Row) : Prop := (0 ≤ z 316 ∧ z 316 ≤ 1061) ∧ (0 ≤ z 317 ∧ z 317 ≤ 90000) ∧ (0 ≤ z 318 ∧ z 318 ≤ 30 * z 316) ∧ (0 ≤ z 319 ∧ z 319 ≤ 240 * z 316) ∧ (0 ≤ z 320 ∧ z 320 ≤ 240 * z 316) ∧ ∀ l : Nat, l < 12 → 0 ≤ tf z l 7 ∧ tf z l 7 ≤ 30 * z 316
/-- what holds of every row that stands between two calls, and between two turns -/
def WF (z : Row) : Prop := wfB z ∧ wfO z (z 316 + 1) ∧ wfC z
theorem wfO_12 {z : Row} {t : Int} (hn : wfN z) (ho : wfO z t) : ∀ k : Nat, (k : Int) < z 195 → (0 ≤ z (196 + 4 * k + 1) ∧ z (196 + 4 * k + 1) < 12) ∧ isC (z (196 + 4 * k + 2)) := fun k hk => by
  have h := ho.2 k hk
  have := hn.2
  exact ⟨⟨h.1.1, by omega⟩, h.2.1⟩
theorem wfO_mem {z : Row} {t : Int} (ho : wfO z t) {d : OD} (hd : d ∈ os z (z 195).toNat) : (0 ≤ d.2.1 ∧ d.2.1 < z 98) ∧ isC d.2.2.1 ∧ t ≤ d.2.2.2 ∧ d.2.2.2 ≤ 1100 := by
  obtain ⟨k, hk, e⟩ := os_mem.mp hd
  have h := ho.2 k (by omega)
  rw [← e]
  exact h
theorem wfO_of {z : Row} {t : Int} (h30 : 0 ≤ z 195 ∧ z 195 ≤ 30) (h : ∀ d : OD, d ∈ os z (z 195).toNat → (0 ≤ d.2.1 ∧ d.2.1 < z 98) ∧ isC d.2.2.1 ∧ t ≤ d.2.2.2 ∧ d.2.2.2 ≤ 1100) : wfO z t :=
  ⟨h30, fun k hk => h (od z k) (os_mem.mpr ⟨k, by omega, rfl⟩)⟩
theorem comeAll_B {z : Row} (hb : wfB z) (ho : wfO z (z 316)) : wfB (comeAllZ z) ∧ wfO (comeAllZ z) (z 316 + 1) := by
  obtain ⟨hh, hn, ht, hu, hg, hs⟩ := hb
  have hn2 := hn.2
  have ho12 := wfO_12 hn ho
  obtain ⟨c1, c2, c3, c4, c5⟩ := comeAll_all ho12 ho.1
  have h98 := c1 98 (by omega) (by decide)
  obtain ⟨a1, a2, a3⟩ := wf_off (y := comeAllZ z) (fun i hi => c1 i (Or.inl hi) (by omega)) hh hn hg
  refine ⟨⟨a1, a2, fun l hl => ?_, ?_, a3, fun l hl => ?_⟩, ?_⟩
  · rw [h98] at hl
    have h := ht l hl
    unfold wfT1 at h ⊢
    have h3 := c4 l (by omega) (by unfold isC; omega)
    have h7 := c5 l (by omega)
    unfold isC at h3
    rw [c3 l 0 (by omega) (by decide) (by decide) (by decide), c3 l 1 (by omega) (by decide) (by decide) (by decide), c3 l 2 (by omega) (by decide) (by decide) (by decide), c3 l 4 (by omega) (by decide) (by decide) (by decide), c3 l 5 (by omega) (by decide) (by decide) (by decide), c3 l 6 (by omega) (by decide) (by decide) (by decide)]
    omega
  · refine wfU_of h98 (fun l hl => c3 l 1 (by omega) (by decide) (by decide) (by decide)) (fun l hl h => ?_) hu
    rw [c3 l 4 (by omega) (by decide) (by decide) (by decide)] at h
    exact h
  · rw [h98] at hl
    rw [c3 l 4 (by omega) (by decide) (by decide) (by decide), c3 l 2 (by omega) (by decide) (by decide) (by decide), c3 l 5 (by omega) (by decide) (by decide) (by decide)]
    exact hs l hl
  · refine wfO_of (by have := ho.1; omega) (fun d hd => ?_)
    rw [(comeAll_os ho12 ho.1).1] at hd
    obtain ⟨m1, m2⟩ := List.mem_filter.mp hd
    have h := wfO_mem ho m1
    have m3 : d.2.2.2 ≠ z 316 := by simpa using m2
    rw [h98]
    refine ⟨h.1, h.2.1, ?_, h.2.2.2⟩
    omega
theorem comeAll_C {z : Row} (hn : wfN z) (ho : wfO z (z 316)) : (z 318 ≤ comeAllZ z 318 ∧ comeAllZ z 318 ≤ z 318 + 30) ∧ (∀ l : Nat, l < 12 → tf z l 7 ≤ tf (comeAllZ z) l 7 ∧ tf (comeAllZ z) l 7 ≤ tf z l 7 + 30) := by
  have h := cm_inv (wfO_12 hn ho) ho.1.2 (z 195).toNat (by have := ho.1; omega)
  have h30 := ho.1
  refine ⟨?_, fun l hl => ?_⟩
  · have e : comeAllZ z 318 = (cmS z (z 195).toNat).1 318 := uz_ne _ _ (by omega)
    rw [e]
    have := h.2.2.1
    omega
  · have e : tf (comeAllZ z) l 7 = tf (cmS z (z 195).toNat).1 l 7 := tf_off (by omega) hl (by decide)
    rw [e]
    have := h.2.2.2.2.1 l hl
    omega
theorem fightZ_C {z : Row} (hn : wfN z) (ht : wfT z) : (z 319 ≤ fightZ z 319 ∧ fightZ z 319 ≤ z 319 + 240) ∧ (z 320 ≤ fightZ z 320 ∧ fightZ z 320 ≤ z 320 + 240) ∧ ∀ l : Nat, l < 12 → tf (fightZ z) l 7 = tf z l 7 := by
  have hn1 := hn.1
  have hn2 := hn.2
  have hT := fA_T ht hn (z 98).toNat
  have h98 := fA_N (z := z) (z 98).toNat
  have hA := fA_inv (z := z) (z 98).toNat
  have hB := fB_inv (y := fA z (z 98).toNat) (z 98).toNat (by omega) (fun l hl => ⟨(hT l (by omega)).1, (hT l (by omega)).2.2.2.2.2.2.1⟩)
  have e1 := hA.1 319 (by omega)
  have e2 := hA.1 320 (by omega)
  refine ⟨?_, ?_, fun l hl => ?_⟩
  · show z 319 ≤ fB _ _ 319 ∧ fB _ _ 319 ≤ z 319 + 240
    have := hB.2.2.1
    omega
  · show z 320 ≤ fB _ _ 320 ∧ fB _ _ 320 ≤ z 320 + 240
    have := hB.2.2.2
    omega
  · show tf (fB _ _) l 7 = _
    rw [hB.2.1 l 7 hl (by decide), if_neg (by omega), if_neg (by omega)]
    exact hA.2.1 l 7 (by decide) (by decide)
/-- the turn is counted, orders come, all march -/
def psA (z : Row) : Row := mchN (comeAllZ (uz z 316 (z 316 + 1))) (z 98).toNat
def passZ (z : Row) : Row := setN (fightZ (psA z)) (z 98).toNat
theorem tick_B {z : Row} (h : WF z) : wfB (uz z 316 (z 316 + 1)) ∧ wfO (uz z 316 (z 316 + 1)) (uz z 316 (z 316 + 1) 316) := by
  obtain ⟨⟨hh, hn, ht, hu, hg, hs⟩, ho, hc⟩ := h
  have hn2 := hn.2
  have e98 : uz z 316 (z 316 + 1) 98 = z 98 := uz_ne _ _ (by decide)
  obtain ⟨a1, a2, a3⟩ := wf_off (y := uz z 316 (z 316 + 1)) (fun i hi => uz_ne _ _ (by omega)) hh hn hg
  refine ⟨⟨a1, a2, fun l hl => ?_, wfU_of e98 (fun l hl => tf_off (by omega) (by omega) (by decide)) (fun l hl h => ?_) hu, a3, fun l hl => ?_⟩, ?_⟩
  · rw [e98] at hl
    have := ht l hl
    unfold wfT1 at this ⊢
    rw [tf_off (by omega) (by omega) (by decide), tf_off (by omega) (by omega) (by decide), tf_off (by omega) (by omega) (by decide), tf_off (by omega) (by omega) (by decide), tf_off (by omega) (by omega) (by decide), tf_off (by omega) (by omega) (by decide), tf_off (by omega) (by omega) (by decide), tf_off (by omega) (by omega) (by decide)]
    exact this
  · rw [tf_off (by omega) (by omega) (by decide)] at h
    exact h
  · rw [e98] at hl
    rw [tf_off (by omega) (by omega) (by decide), tf_off (by omega) (by omega) (by decide), tf_off (by omega) (by omega) (by decide)]
    exact hs l hl
  · rw [uz_same]
    have e5 : uz z 316 (z 316 + 1) 195 = z 195 := uz_ne _ _ (by decide)
    refine ⟨by rw [e5]; exact ho.1, fun k hk => ?_⟩
    rw [e5] at hk
    have h30 := ho.1.2
    rw [e98, uz_ne (k := 316) (j := 196 + 4 * k + 1) _ _ (by omega), uz_ne (k := 316) (j := 196 + 4 * k + 2) _ _ (by omega), uz_ne (k := 316) (j := 196 + 4 * k + 3) _ _ (by omega)]
    exact ho.2 k hk
theorem psA_inv {z : Row} (h : WF z) : wfB (psA z) ∧ wfO (psA z) (z 316 + 2) ∧ (∀ i : Nat, i < 99 ∨ (317 ≤ i ∧ i ≠ 318) → psA z i = z i) ∧ psA z 316 = z 316 + 1 ∧ (z 318 ≤ psA z 318 ∧ psA z 318 ≤ z 318 + 30) ∧ ∀ l : Nat, l < 12 → tf z l 7 ≤ tf (psA z) l 7 ∧ tf (psA z) l 7 ≤ tf z l 7 + 30 := by
  obtain ⟨b0, o0⟩ := tick_B h
  have e98 : uz z 316 (z 316 + 1) 98 = z 98 := uz_ne _ _ (by decide)
  have e16 : uz z 316 (z 316 + 1) 316 = z 316 + 1 := uz_same _ _ _
  have e18 : uz z 316 (z 316 + 1) 318 = z 318 := uz_ne _ _ (by decide)
  have et : ∀ l : Nat, l < 12 → tf (uz z 316 (z 316 + 1)) l 7 = tf z l 7 := fun l hl => tf_off (by omega) hl (by decide)
  have ei : ∀ i : Nat, i ≠ 316 → uz z 316 (z 316 + 1) i = z i := fun i hi => uz_ne _ _ hi
  unfold psA
  generalize uz z 316 (z 316 + 1) = y at *
  obtain ⟨b1, o1⟩ := comeAll_B b0 o0
  obtain ⟨c1, c2, c3, c4, c5⟩ := comeAll_all (wfO_12 b0.2.1 o0) o0.1
  obtain ⟨d1, d2⟩ := comeAll_C b0.2.1 o0
  have f98 := c1 98 (by omega) (by decide)
  obtain ⟨m1, m2, m3⟩ := mchN_inv b1 (z 98).toNat (by have := h.1.2.1.1; omega)
  refine ⟨m1, ?_, fun i hi => ?_, ?_, ?_, fun l hl => ?_⟩
  · have q1 := m2 195 (by omega)
    refine ⟨by rw [q1]; exact o1.1, fun k hk => ?_⟩
    rw [q1] at hk
    rw [m2 98 (by omega), m2 (196 + 4 * k + 1) (by omega), m2 (196 + 4 * k + 2) (by omega), m2 (196 + 4 * k + 3) (by omega)]
    have := o1.2 k hk
    rw [e16] at this
    refine ⟨this.1, this.2.1, ?_, this.2.2.2⟩
    omega
  · rw [m2 i (by omega), c1 i (by omega) (by omega), ei i (by omega)]
  · rw [m2 316 (by omega), c1 316 (by omega) (by decide), e16]
  · rw [m2 318 (by omega)]
    omega
  · rw [m3 l 7 (by decide) (by decide)]
    have := d2 l hl
    rw [et l hl] at this
    exact this
theorem pass_inv {z : Row} (h : WF z) (hm : z 316 ≤ 1060) : WF (passZ z) ∧ passZ z 316 = z 316 + 1 ∧ passZ z 98 = z 98 ∧ passZ z 317 = z 317 ∧ (∀ i : Nat, i < 99 → passZ z i = z i) := by
  obtain ⟨b1, o1, i1, t1, k1, l1⟩ := psA_inv h
  have hC := h.2.2
  have b2 := fightZ_B b1
  obtain ⟨f1, f2, f3⟩ := fightZ_C b1.2.1 b1.2.2.1
  have fo : ∀ i : Nat, i < 99 ∨ (195 ≤ i ∧ i ≠ 319 ∧ i ≠ 320) → fightZ (psA z) i = psA z i := fun i hi => fightZ_off b1.2.1 b1.2.2.1 hi
  have f98 := fo 98 (by omega)
  have g98 := i1 98 (by omega)
  obtain ⟨s1, s2, s3⟩ := setN_inv b2 (z 98).toNat (by have := h.1.2.1.1; omega)
  have p16 : passZ z 316 = z 316 + 1 := by
    show setN _ _ 316 = _
    rw [s2 316 (by omega), fo 316 (by omega), t1]
  have hC' := hC
  unfold wfC at hC'
  refine ⟨⟨s1, ?_, ?_⟩, p16, ?_, ?_, fun i hi => ?_⟩
  · rw [p16]
    have q1 : passZ z 195 = psA z 195 := by
      show setN _ _ 195 = _
      rw [s2 195 (by omega), fo 195 (by omega)]
    refine ⟨by rw [q1]; exact o1.1, fun k hk => ?_⟩
    rw [q1] at hk
    have h30 := o1.1.2
    have q2 : ∀ i : Nat, 195 ≤ i ∧ i ≠ 319 ∧ i ≠ 320 → passZ z i = psA z i := fun i hi => by
      show setN _ _ i = _
      rw [s2 i (by omega), fo i (by omega)]
    have q3 : passZ z 98 = psA z 98 := by
      show setN _ _ 98 = _
      rw [s2 98 (by omega), fo 98 (by omega)]
    rw [q3, q2 (196 + 4 * k + 1) (by omega), q2 (196 + 4 * k + 2) (by omega), q2 (196 + 4 * k + 3) (by omega)]
    have := o1.2 k hk
    refine ⟨this.1, this.2.1, ?_, this.2.2.2⟩
    omega
  · unfold wfC
    rw [p16]
    have a7 : passZ z 317 = z 317 := by
      show setN _ _ 317 = _
      rw [s2 317 (by omega), fo 317 (by omega), i1 317 (by omega)]
    have a8 : passZ z 318 = psA z 318 := by
      show setN _ _ 318 = _
      rw [s2 318 (by omega), fo 318 (by omega)]
    have a9 : passZ z 319 = fightZ (psA z) 319 := s2 319 (by omega)
    have a0 : passZ z 320 = fightZ (psA z) 320 := s2 320 (by omega)
    have j9 := i1 319 (by omega)
    have j0 := i1 320 (by omega)
    refine ⟨by omega, by omega, by omega, by omega, by omega, fun l hl => ?_⟩
    have a1 : tf (passZ z) l 7 = tf (psA z) l 7 := by
      show tf (setN _ _) l 7 = _
      rw [s3 l 7 (by decide) (by decide) (by decide), f3 l hl]
    have := l1 l hl
    have := hC.2.2.2.2.2 l hl
    rw [a1]
    omega
  · show setN _ _ 98 = _
    rw [s2 98 (by omega), f98, g98]
  · show setN _ _ 317 = _
    rw [s2 317 (by omega), fo 317 (by omega), i1 317 (by omega)]
  · show setN _ _ i = _
    rw [s2 i (by omega), fo i (by omega), i1 i (by omega)]
/-! ===== the model: rows are kept and taken back ===== -/
def pr (I : Nat → Nat → Int) (a : Nat) (r : Row) : Nat → Nat → Int := fun b => if b = a then r else I b
theorem pr_at (I : Nat → Nat → Int) (a : Nat) (r : Row) : pr I a r a = r := if_pos rfl
theorem pr_off (I : Nat → Nat → Int) {a b : Nat} (r : Row) (h : b ≠ a) : pr I a r b = I b := if_neg h
theorem pr_self (I : Nat → Nat → Int) (a : Nat) : pr I a (I a) = I := funext (fun b => by
  unfold pr
  split
  · rename_i h; rw [h]
  · rfl)
theorem u2_pr (I : Nat → Nat → Int) (a : Nat) (r : Row) (k : Nat) (v : Int) : u2 (pr I a r) a k v = pr I a (uz r k v) := funext (fun b => by
  by_cases h : b = a
  · rw [h, u2_at, pr_at, pr_at]
  · rw [u2_off _ _ _ h, pr_off _ _ h, pr_off _ _ h])
theorem pr_u2 (I : Nat → Nat → Int) {a b : Nat} (r : Row) (k : Nat) (v : Int) (h : a ≠ b) : pr (u2 I a k v) b r = u2 (pr I b r) a k v := funext (fun c => by
  by_cases hb : c = b
  · rw [hb, pr_at, u2_off _ _ _ (fun w => h w.symm), pr_at]
  · rw [pr_off _ _ hb]
    by_cases ha : c = a
    · rw [ha, u2_at, u2_at, pr_off _ _ h]
    · rw [u2_off _ _ _ ha, u2_off _ _ _ ha, pr_off _ _ hb])
theorem uz_uz (f : Row) (k : Nat) (v w : Int) : uz (uz f k v) k w = uz f k w := funext (fun j => by
  unfold uz
  split <;> rfl)
theorem u2_u2 (I : Nat → Nat → Int) (a k : Nat) (v w : Int) : u2 (u2 I a k v) a k w = u2 I a k w := funext (fun b => by
  by_cases h : b = a
  · rw [h, u2_at, u2_at, u2_at, uz_uz]
  · rw [u2_off _ _ _ h, u2_off _ _ _ h, u2_off _ _ _ h])
/-- all but the oldest one move up -/
def shS (s : Row) : Nat → Row
  | 0 => s
  | n + 1 => uz (shS s n) n (shS s n (321 + n))
theorem shS_s (s : Row) (n : Nat) : shS s (n + 1) = uz (shS s n) n (shS s n (321 + n)) := rfl
theorem shS_at (s : Row) : ∀ n j : Nat, shS s n j = if j < n then s (321 + j) else s j := by
  intro n
  induction n with
  | zero => intro j; rfl
  | succ n ih =>
    intro j
    rw [shS_s]
    by_cases e : j = n
    · rw [e, uz_same, ih, if_neg (by omega), if_pos (by omega)]
    · rw [uz_ne _ _ e, ih]
      by_cases c : j < n
      · rw [if_pos c, if_pos (by omega)]
      · rw [if_neg c, if_neg (by omega)]
/-- the first numbers of z are put behind b -/
def cpS (s z : Row) (b : Nat) : Nat → Row
  | 0 => s
  | n + 1 => uz (cpS s z b n) (b + n) (z n)
theorem cpS_s (s z : Row) (b n : Nat) : cpS s z b (n + 1) = uz (cpS s z b n) (b + n) (z n) := rfl
theorem cpS_at (s z : Row) (b : Nat) : ∀ n j : Nat, cpS s z b n j = if b ≤ j ∧ j < b + n then z (j - b) else s j := by
  intro n
  induction n with
  | zero => intro j; rw [if_neg (by omega)]; rfl
  | succ n ih =>
    intro j
    rw [cpS_s]
    by_cases e : j = b + n
    · rw [e, uz_same, if_pos (by omega), Nat.add_sub_cancel_left]
    · rw [uz_ne _ _ e, ih]
      by_cases c : b ≤ j ∧ j < b + n
      · rw [if_pos c, if_pos (by omega)]
      · rw [if_neg c, if_neg (by omega)]
/-- and taken from there -/
def tkZ (z a : Row) (b : Nat) : Nat → Row
  | 0 => z
  | n + 1 => uz (tkZ z a b n) n (a (b + n))
theorem tkZ_s (z a : Row) (b n : Nat) : tkZ z a b (n + 1) = uz (tkZ z a b n) n (a (b + n)) := rfl
theorem tkZ_at (z a : Row) (b : Nat) : ∀ n j : Nat, tkZ z a b n j = if j < n then a (b + j) else z j := by
  intro n
  induction n with
  | zero => intro j; rfl
  | succ n ih =>
    intro j
    rw [tkZ_s]
    by_cases e : j = n
    · rw [e, uz_same, if_pos (by omega)]
    · rw [uz_ne _ _ e, ih]
      by_cases c : j < n
      · rw [if_pos c, if_pos (by omega)]
      · rw [if_neg c, if_neg (by omega)]
/-- what save lays -/
def svS (s z : Row) (n : Int) : Row := cpS (if n = 5 then shS s 1284 else s) z (321 * (if n = 5 then 4 else n)).toNat 321
def svN (n : Int) : Int := if n = 5 then 5 else n + 1
/-! ===== the model: sums ===== -/
def sumN (f : Nat → Int) : Nat → Int
  | 0 => 0
  | n + 1 => sumN f n + f n
theorem sumN_s (f : Nat → Int) (n : Nat) : sumN f (n + 1) = sumN f n + f n := rfl
theorem sumN_b {f : Nat → Int} {B : Int} : ∀ n : Nat, (∀ k : Nat, k < n → 0 ≤ f k ∧ f k ≤ B) → 0 ≤ sumN f n ∧ sumN f n ≤ B * n := by
  intro n
  induction n with
  | zero =>
    intro _
    show 0 ≤ (0 : Int) ∧ (0 : Int) ≤ B * ((0 : Nat) : Int)
    omega
  | succ n ih =>
    intro h
    have h1 := ih (fun k hk => h k (by omega))
    have h2 := h n (by omega)
    rw [sumN_s]
    have e : B * ((n + 1 : Nat) : Int) = B * (n : Int) + B := by rw [Int.natCast_add, Int.mul_add]; omega
    omega
theorem sumN_congr {f h : Nat → Int} : ∀ n : Nat, (∀ k : Nat, k < n → f k = h k) → sumN f n = sumN h n := by
  intro n
  induction n with
  | zero => intro _; rfl
  | succ n ih =>
    intro e
    rw [sumN_s, sumN_s, ih (fun k hk => e k (by omega)), e n (by omega)]
/-- how many orders are under way to a troop -/
def ofN (z : Row) (t : Int) : Nat → Int := sumN (fun k => if z (196 + 4 * k + 1) = t then 1 else 0)
/-- how many troops are in a state -/
def inN (z : Row) (s : Int) : Nat → Int := sumN (fun k => if tf z k 4 = s then 1 else 0)
/-- the strength of a side -/
def stN (z : Row) (s : Int) : Nat → Int := sumN (fun k => if tf z k 0 = s then tf z k 2 else 0)
/-- how many orders come ahead of one -/
def rkN (z : Row) (o : Nat) : Nat → Int := sumN (fun k => if z (196 + 4 * k + 3) < z (196 + 4 * o + 3) ∨ (z (196 + 4 * k + 3) = z (196 + 4 * o + 3) ∧ k < o) then 1 else 0)
theorem ite01 {p : Prop} (d : Decidable p) : 0 ≤ (if p then (1 : Int) else 0) ∧ (if p then (1 : Int) else 0) ≤ 1 := by
  split <;> omega
theorem ofN_b (z : Row) (t : Int) (n : Nat) : 0 ≤ ofN z t n ∧ ofN z t n ≤ 1 * n := sumN_b n (fun _ _ => ite01 _)
theorem inN_b (z : Row) (t : Int) (n : Nat) : 0 ≤ inN z t n ∧ inN z t n ≤ 1 * n := sumN_b n (fun _ _ => ite01 _)
theorem rkN_b (z : Row) (o n : Nat) : 0 ≤ rkN z o n ∧ rkN z o n ≤ 1 * n := sumN_b n (fun _ _ => ite01 _)
theorem stN_b {z : Row} (ht : wfT z) (s : Int) (n : Nat) (hn : (n : Int) ≤ z 98) : 0 ≤ stN z s n ∧ stN z s n ≤ 20 * n := sumN_b n (fun k hk => by
  have := ht k (by omega)
  unfold wfT1 at this
  show 0 ≤ (if tf z k 0 = s then tf z k 2 else 0) ∧ (if tf z k 0 = s then tf z k 2 else 0) ≤ 20
  split <;> omega)
/-! ===== the model: what it tells ===== -/
def ceN (z : Row) (c w : Int) : Int := if w = 0 then z c.toNat else if w = 1 then tAt z c else if w = 2 then exN z c 4 else sfN z c 96
def trN (z : Row) (k : Nat) (w : Int) : Int := if w = 7 then ofN z k (z 195).toNat else if w = 8 then tf z k 7 else tf z k w.toNat
def cntZ (z : Row) (w : Int) : Int := if w = 0 then z 316 else if w = 1 then z 98 else if w = 2 then z 98 - inN z 2 (z 98).toNat else if w = 3 then inN z 1 (z 98).toNat else if w = 4 then z 317 else if w = 5 then z 195 else if w = 6 then z 318 else if w = 7 then z 319 else if w = 8 then z 320 else if w = 9 then stN z 0 (z 98).toNat else if w = 10 then stN z 1 (z 98).toNat else if w = 11 then z 96 else z 97
/-- the turns from a cell to troop k, for a post -/
def tmK (z : Row) (c : Int) (k : Nat) : Int := if seeI z c (tf z k 1) = 1 then 1 else if dS z c (tf z k 1) = -1 then 20 else (dS z c (tf z k 1) + 2) / 3
def tmN (z : Row) (c s : Int) : Nat → Int := sumN (fun k => if tf z k 4 ≠ 2 ∧ tf z k 0 = s then tmK z c k else 0)
theorem tmK_b {z : Row} {c : Int} {k : Nat} (hc : isC c) (hk : wfT1 z k) : 0 ≤ tmK z c k ∧ tmK z c k ≤ 33 := by
  have hx : isC (tf z k 1) := by unfold isC; have := hk.2.1; omega
  have := dS_b (z := z) hc hx
  unfold tmK
  repeat' split
  all_goals omega
theorem tmN_b {z : Row} {c s : Int} (hc : isC c) (ht : wfT z) (n : Nat) (hn : (n : Int) ≤ z 98) : 0 ≤ tmN z c s n ∧ tmN z c s n ≤ 33 * n := sumN_b n (fun k hk => by
  have := tmK_b hc (ht k (by omega))
  show 0 ≤ (if tf z k 4 ≠ 2 ∧ tf z k 0 = s then tmK z c k else 0) ∧ (if tf z k 4 ≠ 2 ∧ tf z k 0 = s then tmK z c k else 0) ≤ 33
  split <;> omega)
/-! ===== the model: what would be ===== -/
theorem pass_hi {z : Row} (h : WF z) {i : Nat} (hi : 321 ≤ i) : passZ z i = z i := by
  obtain ⟨b1, o1, i1, t1, k1, l1⟩ := psA_inv h
  have b2 := fightZ_B b1
  obtain ⟨s1, s2, s3⟩ := setN_inv b2 (z 98).toNat (by
    have e1 := fightZ_off b1.2.1 b1.2.2.1 (i := 98) (by omega)
    have e2 := i1 98 (by omega)
    have := h.1.2.1.1
    omega)
  show setN _ _ i = _
  rw [s2 i (by omega), fightZ_off b1.2.1 b1.2.2.1 (by omega), i1 i (by omega)]
def passN (z : Row) : Nat → Row
  | 0 => z
  | n + 1 => passZ (passN z n)
theorem passN_s (z : Row) (n : Nat) : passN z (n + 1) = passZ (passN z n) := rfl
theorem passN_inv {z : Row} (h : WF z) : ∀ n : Nat, z 316 + n ≤ 1061 → WF (passN z n) ∧ passN z n 316 = z 316 + n ∧ passN z n 98 = z 98 ∧ passN z n 317 = z 317 ∧ (∀ i : Nat, i < 99 → passN z n i = z i) ∧ (∀ i : Nat, 321 ≤ i → passN z n i = z i) := by
  intro n
  induction n with
  | zero => intro _; exact ⟨h, by show z 316 = z 316 + ((0 : Nat) : Int); omega, rfl, rfl, fun i _ => rfl, fun i _ => rfl⟩
  | succ n ih =>
    intro hn
    obtain ⟨h1, h2, h3, h4, h5, h6⟩ := ih (by omega)
    obtain ⟨p1, p2, p3, p4, p5⟩ := pass_inv h1 (by omega)
    rw [passN_s]
    exact ⟨p1, by omega, by omega, by omega, fun i hi => by rw [p5 i hi, h5 i hi], fun i hi => by rw [pass_hi h1 hi, h6 i hi]⟩
theorem back {z y a : Row} (h : ∀ i : Nat, 321 ≤ i → y i = z i) : tkZ y (cpS a z 0 321) 0 321 = z := funext (fun j => by
  rw [tkZ_at]
  split
  · rename_i q
    rw [cpS_at, if_pos (by omega)]
    congr 1
    omega
  · rename_i q
    exact h j (by omega))
/-- troop k is where it wants to be -/
def atG (z : Row) (k : Nat) : Bool := decide (tf z k 4 ≠ 2 ∧ tf z k 1 = tf z k 3)
def arF (z : Row) (k : Nat) : Nat → Nat → Int
  | 0, _ => -1
  | g + 1, n => if atG (passN z n) k = true then (n : Int) else arF z k g (n + 1)
theorem arF_s (z : Row) (k g n : Nat) : arF z k (g + 1) n = if atG (passN z n) k = true then (n : Int) else arF z k g (n + 1) := rfl
/-! ===== the model: what is done ===== -/
def svH (I : Nat → Nat → Int) (z : Row) : Nat → Nat → Int := u2 (pr I 363 (svS (I 363) z (I 361 2))) 361 2 (svN (I 361 2))
theorem svH_off (I : Nat → Nat → Int) (z : Row) {a : Nat} (h : a ≠ 361 ∧ a ≠ 363) : svH I z a = I a := by
  unfold svH
  rw [u2_off _ _ _ h.1, pr_off _ _ h.2]
theorem svH_f (I : Nat → Nat → Int) (z : Row) {k : Nat} (h : k ≠ 2) : svH I z 361 k = I 361 k := by
  unfold svH
  rw [u2_at, uz_ne _ _ h, pr_off _ _ (by decide)]
theorem svH_n (I : Nat → Nat → Int) (z : Row) : svH I z 361 2 = svN (I 361 2) := by
  unfold svH
  rw [u2_at, uz_same]
theorem svH_s (I : Nat → Nat → Int) (z : Row) : svH I z 363 = svS (I 363) z (I 361 2) := by
  unfold svH
  rw [u2_off _ _ _ (by decide), pr_at]
/-- a block of the field gets a height; how many cells had another one -/
def shZ (z : Row) (a b h : Int) : Nat → Row × Int
  | 0 => (z, 0)
  | n + 1 => if a % 12 ≤ (a + n) % 12 ∧ (a + n) % 12 ≤ b % 12 then (uz (shZ z a b h n).1 (a + n).toNat h, (shZ z a b h n).2 + (if (shZ z a b h n).1 (a + n).toNat = h then 0 else 1)) else shZ z a b h n
theorem shZ_s (z : Row) (a b h : Int) (n : Nat) : shZ z a b h (n + 1) = if a % 12 ≤ (a + n) % 12 ∧ (a + n) % 12 ≤ b % 12 then (uz (shZ z a b h n).1 (a + n).toNat h, (shZ z a b h n).2 + (if (shZ z a b h n).1 (a + n).toNat = h then 0 else 1)) else shZ z a b h n := rfl
theorem shZ_b (z : Row) (a b h : Int) : ∀ n : Nat, 0 ≤ (shZ z a b h n).2 ∧ (shZ z a b h n).2 ≤ n := by
  intro n
  induction n with
  | zero =>
    show 0 ≤ (0 : Int) ∧ (0 : Int) ≤ ((0 : Nat) : Int)
    omega
  | succ n ih =>
    rw [shZ_s]
    split
    · show 0 ≤ (shZ z a b h n).2 + (if _ then 0 else 1) ∧ (shZ z a b h n).2 + (if _ then 0 else 1) ≤ ((n + 1 : Nat) : Int)
      split <;> omega
    · omega
/-- a new troop's numbers -/
def clZ (z : Row) (n : Nat) : Nat → Row
  | 0 => z
  | k + 1 => uz (clZ z n k) (99 + 8 * n + k) 0
theorem clZ_s (z : Row) (n k : Nat) : clZ z n (k + 1) = uz (clZ z n k) (99 + 8 * n + k) 0 := rfl
def adZ (z : Row) (n : Nat) (s c v : Int) : Row := uz (uz (uz (uz (uz (uz (clZ z n 8) (99 + 8 * n + 0) s) (99 + 8 * n + 1) c) (99 + 8 * n + 2) v) (99 + 8 * n + 3) c) (99 + 8 * n + 5) v) 98 (z 98 + 1)
theorem clZ_98 (z : Row) (n : Nat) : ∀ k : Nat, clZ z n k 98 = z 98 := by
  intro k
  induction k with
  | zero => rfl
  | succ k ih => rw [clZ_s, uz_ne _ _ (by omega), ih]
/-! ===== an order more: what holds of the row ===== -/
theorem dSp_zero {z : Row} {op : Int → Bool} {c : Int} {f : Row} (hf : dSp z op c f) {t : Int} (ht : isC t) (h : f t.toNat = 0) : t = c := by
  rcases hf t ht with q | q
  · omega
  · have e := q.2.2.1
    rw [h] at e
    exact e
theorem dS_zero {z : Row} {a b : Int} (ha : isC a) (hb : isC b) (h : dS z a b = 0) : b = a := dSp_zero (dF_sp ha) hb h
theorem nn_self (a : Int) : nn a a = 0 := by
  unfold nn ab
  repeat' split
  all_goals omega
theorem seeI_self (z : Row) (a : Int) : seeI z a a = 1 := seeI_one (fun k h1 h2 => by rw [nn_self] at h2; omega)
theorem ordT_pos {z : Row} {a : Int} {k : Nat} (ha : isC a) (hk : wfT1 z k) : ordT z a k = -1 ∨ (1 ≤ ordT z a k ∧ ordT z a k ≤ 33) := by
  have hc : isC (tf z k 1) := by unfold isC; have := hk.2.1; omega
  have hb := dS_b (z := z) ha hc
  unfold ordT
  split
  · omega
  · rename_i h1
    split
    · omega
    · rename_i h2
      have h3 : dS z a (tf z k 1) ≠ 0 := fun h => by
        have e := dS_zero ha hc h
        rw [e, seeI_self] at h1
        exact h1 rfl
      omega
theorem giveZ_at {z : Row} (k c : Int) (h30 : 0 ≤ z 195 ∧ z 195 < 30) :
    (∀ i : Nat, i < 195 ∨ (316 ≤ i ∧ i ≠ 317) → giveZ z k c i = z i) ∧ giveZ z k c 195 = z 195 + 1 ∧ giveZ z k c 317 = z 317 + 1 ∧
    (∀ i : Nat, 196 ≤ i → i < 196 + 4 * (z 195).toNat → giveZ z k c i = z i) ∧ od (giveZ z k c) (z 195).toNat = (z 317, k, c, z 316 + ordG z k.toNat) := by
  have e0 : (196 + 4 * z 195).toNat = 196 + 4 * (z 195).toNat := by omega
  have e1 : (196 + 4 * z 195 + 1).toNat = 196 + 4 * (z 195).toNat + 1 := by omega
  have e2 : (196 + 4 * z 195 + 2).toNat = 196 + 4 * (z 195).toNat + 2 := by omega
  have e3 : (196 + 4 * z 195 + 3).toNat = 196 + 4 * (z 195).toNat + 3 := by omega
  unfold giveZ
  rw [e0, e1, e2, e3]
  have hn : (z 195).toNat < 30 := by omega
  generalize (z 195).toNat = n at *
  refine ⟨fun i hi => ?_, uz_same _ _ _, ?_, fun i h1 h2 => ?_, ?_⟩
  · rw [uz_ne _ _ (by omega), uz_ne _ _ (by omega), uz_ne _ _ (by omega), uz_ne _ _ (by omega), uz_ne _ _ (by omega), uz_ne _ _ (by omega)]
  · rw [uz_ne _ _ (by omega), uz_same]
  · rw [uz_ne _ _ (by omega), uz_ne _ _ (by omega), uz_ne _ _ (by omega), uz_ne _ _ (by omega), uz_ne _ _ (by omega), uz_ne _ _ (by omega)]
  · unfold od
    rw [uz_ne (j := 196 + 4 * n) _ _ (by omega), uz_ne (j := 196 + 4 * n) _ _ (by omega), uz_ne (j := 196 + 4 * n) _ _ (by omega), uz_ne (j := 196 + 4 * n) _ _ (by omega), uz_ne (j := 196 + 4 * n) _ _ (by omega), uz_same]
    rw [uz_ne (j := 196 + 4 * n + 1) _ _ (by omega), uz_ne (j := 196 + 4 * n + 1) _ _ (by omega), uz_ne (j := 196 + 4 * n + 1) _ _ (by omega), uz_ne (j := 196 + 4 * n + 1) _ _ (by omega), uz_same]
    rw [uz_ne (j := 196 + 4 * n + 2) _ _ (by omega), uz_ne (j := 196 + 4 * n + 2) _ _ (by omega), uz_ne (j := 196 + 4 * n + 2) _ _ (by omega), uz_same]
    rw [uz_ne (j := 196 + 4 * n + 3) _ _ (by omega), uz_ne (j := 196 + 4 * n + 3) _ _ (by omega), uz_same]
theorem giveZ_os {z : Row} (k c : Int) (h30 : 0 ≤ z 195 ∧ z 195 < 30) : os (giveZ z k c) (giveZ z k c 195).toNat = os z (z 195).toNat ++ [(z 317, k, c, z 316 + ordG z k.toNat)] := by
  obtain ⟨g1, g2, g3, g4, g5⟩ := giveZ_at k c h30
  rw [g2, show (z 195 + 1).toNat = (z 195).toNat + 1 by omega, os_s, g5, os_congr g4]
/-- rows that tell the same of field, generals and troops -/
theorem wfB_of {y z : Row} (h : ∀ i : Nat, i < 195 → y i = z i) (hb : wfB z) : wfB y := by
  obtain ⟨hh, hn, ht, hu, hg, hs⟩ := hb
  have hn2 := hn.2
  obtain ⟨a1, a2, a3⟩ := wf_off (y := y) (fun i hi => h i (by omega)) hh hn hg
  have h98 := h 98 (by omega)
  have et : ∀ l g : Nat, (l : Int) < z 98 → g < 8 → tf y l g = tf z l g := fun l g hl hg => h _ (by omega)
  refine ⟨a1, a2, fun l hl => ?_, wfU_of h98 (fun l hl => et l 1 hl (by decide)) (fun l hl q => ?_) hu, a3, fun l hl => ?_⟩
  · rw [h98] at hl
    have := ht l hl
    unfold wfT1 at this ⊢
    rw [et l 0 hl (by decide), et l 1 hl (by decide), et l 2 hl (by decide), et l 3 hl (by decide), et l 4 hl (by decide), et l 5 hl (by decide), et l 6 hl (by decide), et l 7 hl (by decide)]
    exact this
  · rw [et l 4 hl (by decide)] at q; exact q
  · rw [h98] at hl
    rw [et l 4 hl (by decide), et l 2 hl (by decide), et l 5 hl (by decide)]
    exact hs l hl
theorem whyN_0 {z : Row} {k : Nat} (h : whyN z k = 0) : tf z k 4 ≠ 2 ∧ ordG z k ≠ -1 ∧ z 195 ≠ 30 := by
  unfold whyN at h
  split at h
  · omega
  · split at h
    · omega
    · split at h
      · omega
      · rename_i a b c; exact ⟨a, b, c⟩
theorem wfG_g {z : Row} (hg : wfG z) {s : Int} (hs : 0 ≤ s ∧ s ≤ 1) : isC (z (96 + s).toNat) := by
  rcases (by omega : s = 0 ∨ s = 1) with e | e
  · rw [e]; exact hg.1
  · rw [e]; exact hg.2
theorem giveZ_WF {z : Row} {k c : Int} (hW : WF z) (hm : z 316 ≤ 1000) (hk : 0 ≤ k ∧ k < z 98) (hc : isC c) (hy : whyN z k.toNat = 0) (hg : z 317 < 90000) : WF (giveZ z k c) := by
  obtain ⟨hb, ho, hC⟩ := hW
  have h30 := ho.1
  have hw := whyN_0 hy
  have h30' : 0 ≤ z 195 ∧ z 195 < 30 := by omega
  obtain ⟨g1, g2, g3, g4, g5⟩ := giveZ_at k c h30'
  have hos := giveZ_os k c h30'
  have hT := hb.2.2.1 k.toNat (by omega)
  have hgc := wfG_g hb.2.2.2.2.1 hT.1
  have hp := (ordT_pos hgc hT).resolve_left hw.2.1
  have e16 := g1 316 (by omega)
  have e98 := g1 98 (by omega)
  have e18 := g1 318 (by omega)
  have e19 := g1 319 (by omega)
  have e20 := g1 320 (by omega)
  refine ⟨wfB_of (fun i hi => g1 i (by omega)) hb, ?_, ?_⟩
  · refine wfO_of (by omega) (fun d hd => ?_)
    rw [hos] at hd
    rw [e98, e16]
    rcases List.mem_append.mp hd with q | q
    · exact wfO_mem ho q
    · rw [List.mem_singleton.mp q]
      show (0 ≤ k ∧ k < z 98) ∧ isC c ∧ z 316 + 1 ≤ z 316 + ordT z _ k.toNat ∧ z 316 + ordT z _ k.toNat ≤ 1100
      refine ⟨hk, hc, ?_, ?_⟩ <;> omega
  · unfold wfC at hC ⊢
    rw [e16, e18, e19, e20, g3]
    have hn2 := hb.2.1.2
    refine ⟨hC.1, by omega, hC.2.2.1, hC.2.2.2.1, hC.2.2.2.2.1, fun l hl => ?_⟩
    have := hC.2.2.2.2.2 l hl
    have e : tf (giveZ z k c) l 7 = tf z l 7 := g1 _ (by omega)
    rw [e]
    exact this
/-! ===== orders by the turn in which they come, then by their numbers ===== -/
abbrev due (d : OD) : Int := d.2.2.2
/-- behind all that come no later -/
def insR : List OD → OD → List OD
  | [], x => [x]
  | d :: l, x => if due d ≤ due x then d :: insR l x else x :: d :: l
theorem insR_c (d : OD) (l : List OD) (x : OD) : insR (d :: l) x = if due d ≤ due x then d :: insR l x else x :: d :: l := rfl
def srt (l : List OD) : List OD := l.foldl insR []
theorem srt_snoc (l : List OD) (x : OD) : srt (l ++ [x]) = insR (srt l) x := by
  unfold srt
  rw [List.foldl_append]
  rfl
def sdL : List OD → Prop
  | [] => True
  | d :: l => (∀ e : OD, e ∈ l → due d ≤ due e) ∧ sdL l
theorem insR_mem {l : List OD} {x e : OD} : e ∈ insR l x ↔ e = x ∨ e ∈ l := by
  induction l with
  | nil => simp [insR]
  | cons d l ih =>
    rw [insR_c]
    split
    · rw [List.mem_cons, ih, List.mem_cons]
      exact ⟨fun h => by rcases h with h | h | h; exact Or.inr (Or.inl h); exact Or.inl h; exact Or.inr (Or.inr h), fun h => by rcases h with h | h | h; exact Or.inr (Or.inl h); exact Or.inl h; exact Or.inr (Or.inr h)⟩
    · rw [List.mem_cons]
theorem insR_len (l : List OD) (x : OD) : (insR l x).length = l.length + 1 := by
  induction l with
  | nil => rfl
  | cons d l ih =>
    rw [insR_c]
    split
    · rw [List.length_cons, ih, List.length_cons]
    · rw [List.length_cons]
theorem insR_sd {l : List OD} {x : OD} (h : sdL l) : sdL (insR l x) := by
  induction l with
  | nil => exact ⟨fun e he => absurd he (by simp), trivial⟩
  | cons d l ih =>
    rw [insR_c]
    split
    · rename_i q
      refine ⟨fun e he => ?_, ih h.2⟩
      rcases insR_mem.mp he with u | u
      · rw [u]; exact q
      · exact h.1 e u
    · rename_i q
      refine ⟨fun e he => ?_, h⟩
      rcases List.mem_cons.mp he with u | u
      · rw [u]; omega
      · have := h.1 e u; omega
/-- how many come at t or before -/
def cL : List OD → Int → Nat
  | [], _ => 0
  | d :: l, t => if due d ≤ t then cL l t + 1 else cL l t
theorem cL_c (d : OD) (l : List OD) (t : Int) : cL (d :: l) t = if due d ≤ t then cL l t + 1 else cL l t := rfl
theorem cL_le (l : List OD) (t : Int) : cL l t ≤ l.length := by
  induction l with
  | nil => exact Nat.le_refl _
  | cons d l ih => rw [cL_c, List.length_cons]; split <;> omega
theorem cL_0 {l : List OD} {t : Int} (h : ∀ e : OD, e ∈ l → t < due e) : cL l t = 0 := by
  induction l with
  | nil => rfl
  | cons d l ih =>
    rw [cL_c, if_neg (by have := h d (List.mem_cons_self); omega)]
    exact ih (fun e he => h e (List.mem_cons_of_mem _ he))
theorem cL_ins (l : List OD) (x : OD) (t : Int) : cL (insR l x) t = cL l t + (if due x ≤ t then 1 else 0) := by
  induction l with
  | nil =>
    show cL [x] t = _
    rw [cL_c]
    show (if due x ≤ t then 0 + 1 else 0) = 0 + _
    split <;> rfl
  | cons d l ih =>
    rw [insR_c]
    split
    · rw [cL_c, cL_c, ih]
      split <;> omega
    · rw [cL_c x, cL_c]
      split <;> split <;> omega
theorem cL_snoc (l : List OD) (x : OD) (t : Int) : cL (l ++ [x]) t = cL l t + (if due x ≤ t then 1 else 0) := by
  induction l with
  | nil =>
    show cL [x] t = _
    rw [cL_c]
    show (if due x ≤ t then 0 + 1 else 0) = 0 + _
    split <;> rfl
  | cons d l ih =>
    show cL (d :: (l ++ [x])) t = _
    rw [cL_c, cL_c, ih]
    split <;> omega
theorem srt_all {P : List OD → Prop} (h0 : P []) (h1 : ∀ (l : List OD) (x : OD), P l → P (l ++ [x])) : ∀ l : List OD, P l := by
  intro l
  have : ∀ m : List OD, P m.reverse := by
    intro m
    induction m with
    | nil => exact h0
    | cons a m ih => rw [List.reverse_cons]; exact h1 _ _ ih
  rw [← List.reverse_reverse l]
  exact this _
theorem srt_sd : ∀ l : List OD, sdL (srt l) := srt_all trivial (fun l x h => by rw [srt_snoc]; exact insR_sd h)
theorem srt_len : ∀ l : List OD, (srt l).length = l.length := srt_all rfl (fun l x h => by rw [srt_snoc, insR_len, h, List.length_append]; rfl)
theorem srt_mem {e : OD} : ∀ l : List OD, e ∈ srt l ↔ e ∈ l := srt_all (Iff.rfl) (fun l x h => by
  rw [srt_snoc, insR_mem, h, List.mem_append, List.mem_singleton]
  exact Or.comm)
theorem srt_cL (t : Int) : ∀ l : List OD, cL (srt l) t = cL l t := srt_all rfl (fun l x h => by rw [srt_snoc, cL_ins, h, cL_snoc])
/-- where an order comes to lie -/
theorem insR_at {l : List OD} {x : OD} (h : sdL l) : ∀ i : Nat, (insR l x)[i]? = if i < cL l (due x) then l[i]? else if i = cL l (due x) then some x else l[i - 1]? := by
  induction l with
  | nil =>
    intro i
    show [x][i]? = if i < 0 then _ else if i = 0 then some x else _
    rw [if_neg (Nat.not_lt_zero _)]
    cases i with
    | zero => rfl
    | succ i => rfl
  | cons d l ih =>
    intro i
    rw [insR_c, cL_c]
    split
    · cases i with
      | zero => rw [if_pos (by omega)]; rfl
      | succ i =>
        show (insR l x)[i]? = _
        rw [ih h.2 i]
        by_cases a : i < cL l (due x)
        · rw [if_pos a, if_pos (by omega)]; rfl
        · by_cases b : i = cL l (due x)
          · rw [if_neg a, if_pos b, if_neg (by omega), if_pos (by omega)]
          · rw [if_neg a, if_neg b, if_neg (by omega), if_neg (by omega)]
            show l[i - 1]? = (d :: l)[i]?
            rw [show i = i - 1 + 1 by omega]
            rfl
    · rename_i q
      rw [cL_0 (fun e he => by have := h.1 e he; omega), if_neg (by omega)]
      cases i with
      | zero => rfl
      | succ i => rw [if_neg (by omega)]; rfl
theorem sd_at {l : List OD} (h : sdL l) : ∀ (r : Nat) (t : Int) (d : OD), l[r]? = some d → (r < cL l t ↔ due d ≤ t) := by
  induction l with
  | nil => intro r t d e; exact absurd e (by simp)
  | cons a l ih =>
    intro r t d e
    rw [cL_c]
    cases r with
    | zero =>
      have e : a = d := by simpa using e
      rw [← e]
      split
      · rename_i q; exact ⟨fun _ => q, fun _ => by omega⟩
      · rename_i q
        rw [cL_0 (fun e he => by have := h.1 e he; omega)]
        exact ⟨fun w => absurd w (Nat.lt_irrefl _), fun w => absurd w q⟩
    | succ r =>
      have e : l[r]? = some d := by simpa using e
      have i := ih h.2 r t d e
      split
      · rw [← i]; omega
      · rename_i q
        have hm : d ∈ l := List.mem_of_getElem? e
        have h1 := h.1 d hm
        rw [cL_0 (fun e he => by have := h.1 e he; omega)]
        exact ⟨fun w => absurd w (Nat.not_lt_zero _), fun w => by omega⟩
theorem rkN_s (z : Row) (o n : Nat) : rkN z o (n + 1) = rkN z o n + (if z (196 + 4 * n + 3) < z (196 + 4 * o + 3) ∨ (z (196 + 4 * n + 3) = z (196 + 4 * o + 3) ∧ n < o) then 1 else 0) := rfl
theorem rkN_new (z : Row) (o : Nat) : ∀ n : Nat, n ≤ o → rkN z o n = cL (os z n) (z (196 + 4 * o + 3)) := by
  intro n
  induction n with
  | zero => intro _; rfl
  | succ n ih =>
    intro h
    rw [rkN_s, ih (by omega), os_s, cL_snoc]
    show _ + _ = (((cL _ _) + (if z (196 + 4 * n + 3) ≤ _ then 1 else 0) : Nat) : Int)
    by_cases q : z (196 + 4 * n + 3) ≤ z (196 + 4 * o + 3)
    · rw [if_pos q, if_pos (by omega)]; omega
    · rw [if_neg q, if_neg (by omega)]; omega
theorem rk_at (z : Row) : ∀ n o : Nat, o < n → (srt (os z n))[(rkN z o n).toNat]? = some (od z o) := by
  intro n
  induction n with
  | zero => intro o h; exact absurd h (Nat.not_lt_zero _)
  | succ n ih =>
    intro o h
    rw [os_s, srt_snoc, insR_at (srt_sd _), rkN_s]
    have hb := rkN_b z o n
    have hd : due (od z n) = z (196 + 4 * n + 3) := rfl
    rw [hd]
    rcases (by omega : o < n ∨ o = n) with q | q
    · have e := ih o q
      have s := sd_at (srt_sd (os z n)) _ (z (196 + 4 * n + 3)) _ e
      have hd2 : due (od z o) = z (196 + 4 * o + 3) := rfl
      rw [hd2] at s
      by_cases u : z (196 + 4 * o + 3) ≤ z (196 + 4 * n + 3)
      · rw [if_neg (show ¬ (z (196 + 4 * n + 3) < z (196 + 4 * o + 3) ∨ (z (196 + 4 * n + 3) = z (196 + 4 * o + 3) ∧ n < o)) by omega), Int.add_zero, if_pos (s.mpr u)]
        exact e
      · have u2 : ¬ (rkN z o n).toNat < cL (srt (os z n)) (z (196 + 4 * n + 3)) := fun w => u (s.mp w)
        rw [if_pos (show z (196 + 4 * n + 3) < z (196 + 4 * o + 3) ∨ (z (196 + 4 * n + 3) = z (196 + 4 * o + 3) ∧ n < o) by omega)]
        rw [show (rkN z o n + 1).toNat = (rkN z o n).toNat + 1 by omega, if_neg (by omega), if_neg (by omega), Nat.add_sub_cancel]
        exact e
    · subst q
      rw [if_neg (show ¬ (z (196 + 4 * o + 3) < z (196 + 4 * o + 3) ∨ (z (196 + 4 * o + 3) = z (196 + 4 * o + 3) ∧ o < o)) by omega), Int.add_zero, rkN_new z o o (Nat.le_refl _)]
      rw [srt_cL, if_neg (by omega), if_pos (by omega)]
theorem rk_onto (z : Row) : ∀ n p : Nat, p < n → ∃ o : Nat, o < n ∧ rkN z o n = p := by
  intro n
  induction n with
  | zero => intro p h; exact absurd h (Nat.not_lt_zero _)
  | succ n ih =>
    intro p h
    have hc := cL_le (os z n) (z (196 + 4 * n + 3))
    rw [os_len] at hc
    rcases (by omega : p = cL (os z n) (z (196 + 4 * n + 3)) ∨ p < cL (os z n) (z (196 + 4 * n + 3)) ∨ cL (os z n) (z (196 + 4 * n + 3)) < p) with q | q | q
    · refine ⟨n, by omega, ?_⟩
      rw [rkN_s, rkN_new z n n (Nat.le_refl _), if_neg (by omega), q]
      omega
    · obtain ⟨o, o1, o2⟩ := ih p (by omega)
      have e := rk_at z n o o1
      rw [o2] at e
      have s := (sd_at (srt_sd (os z n)) _ (z (196 + 4 * n + 3)) _ e).mp (by rw [srt_cL]; omega)
      have s : z (196 + 4 * o + 3) ≤ z (196 + 4 * n + 3) := s
      refine ⟨o, by omega, ?_⟩
      rw [rkN_s, if_neg (by omega), o2]
      omega
    · obtain ⟨o, o1, o2⟩ := ih (p - 1) (by omega)
      have e := rk_at z n o o1
      rw [o2] at e
      have s : ¬ z (196 + 4 * o + 3) ≤ z (196 + 4 * n + 3) := fun w => by
        have := (sd_at (srt_sd (os z n)) _ (z (196 + 4 * n + 3)) _ e).mpr w
        rw [srt_cL] at this
        omega
      refine ⟨o, by omega, ?_⟩
      rw [rkN_s, if_pos (by omega), o2]
      omega
theorem insR_flt {l : List OD} {x : OD} (P : OD → Bool) (h : sdL l) : (insR l x).filter P = if P x = true then insR (l.filter P) x else l.filter P := by
  induction l with
  | nil =>
    show [x].filter P = _
    split
    · rename_i q; rw [List.filter_cons_of_pos q]; rfl
    · rename_i q; rw [List.filter_cons_of_neg q]
  | cons d l ih =>
    rw [insR_c]
    split
    · rename_i q
      by_cases pd : P d = true
      · rw [List.filter_cons_of_pos pd, List.filter_cons_of_pos pd, ih h.2]
        split
        · rw [insR_c, if_pos q]
        · rfl
      · rw [List.filter_cons_of_neg pd, List.filter_cons_of_neg pd, ih h.2]
    · rename_i q
      have hl : ∀ m : List OD, (∀ e : OD, e ∈ m → due x < due e) → insR m x = x :: m := by
        intro m hm
        cases m with
        | nil => rfl
        | cons e m => rw [insR_c, if_neg (by have := hm e List.mem_cons_self; omega)]
      split
      · rename_i px
        rw [List.filter_cons_of_pos px, hl]
        intro e he
        have he := (List.mem_filter.mp he).1
        rcases List.mem_cons.mp he with u | u
        · rw [u]; omega
        · have := h.1 e u; omega
      · rename_i px
        rw [List.filter_cons_of_neg px]
theorem srt_flt (P : OD → Bool) : ∀ l : List OD, srt (l.filter P) = (srt l).filter P := srt_all rfl (fun l x h => by
  rw [List.filter_append, srt_snoc, insR_flt P (srt_sd l), ← h]
  split
  · rename_i q; rw [List.filter_cons_of_pos q]; exact srt_snoc _ _
  · rename_i q; rw [List.filter_cons_of_neg q]; show srt (l.filter P ++ []) = _; rw [List.append_nil])
theorem sd_take {l : List OD} (h : sdL l) (t : Int) : l.filter (fun d => decide (due d ≤ t)) = l.take (cL l t) ∧ l.filter (fun d => !decide (due d ≤ t)) = l.drop (cL l t) := by
  induction l with
  | nil => exact ⟨rfl, rfl⟩
  | cons d l ih =>
    have i := ih h.2
    rw [cL_c]
    by_cases q : due d ≤ t
    · rw [if_pos q, List.filter_cons_of_pos (by simp [q]), List.filter_cons_of_neg (by simp [q]), i.1, i.2]
      exact ⟨rfl, rfl⟩
    · have c0 := cL_0 (l := l) (t := t) (fun e he => by have := h.1 e he; omega)
      rw [if_neg q, c0, List.filter_cons_of_neg (by simp [q]), List.filter_cons_of_pos (by simp [q]), i.1, i.2, c0]
      exact ⟨rfl, rfl⟩
/-! ===== shares: what is told of their bits by trying them all ===== -/
def shD (a b : Nat) : UInt64 := FP.ddiv (FP.i2d (Int32.ofInt a)) (FP.i2d (Int32.ofInt b))
/-- a share is 0, or a normal number from 1/256 to 1 -/
def okD1 (a b : Nat) : Bool := if a = 0 then Nat.beq (shD a b).toNat 0 else Nat.ble 4571153621781053440 (shD a b).toNat && Nat.ble (shD a b).toNat 4607182418800017408
def okR (b n : Nat) : Bool := (List.range n).all (fun j => (List.range (b + j + 1)).all (fun a => okD1 a (b + j)))
theorem okS_1 : okR 1 100 = true := by decide +kernel
theorem okS_2 : okR 101 60 = true := by decide +kernel
theorem okS_3 : okR 161 40 = true := by decide +kernel
theorem okS_4 : okR 201 40 = true := by decide +kernel
theorem okR_at {b n : Nat} (h : okR b n = true) {a c : Nat} (h1 : b ≤ c) (h2 : c < b + n) (h3 : a ≤ c) : okD1 a c = true := by
  have h4 := List.all_eq_true.mp h (c - b) (List.mem_range.mpr (by omega))
  have h5 := List.all_eq_true.mp h4 a (List.mem_range.mpr (by omega))
  rw [show b + (c - b) = c by omega] at h5
  exact h5
theorem shD_ok {a b : Nat} (h1 : 1 ≤ b) (h2 : b ≤ 240) (h3 : a ≤ b) : ((a = 0 ∧ (shD a b).toNat = 0) ∨ (0 < a ∧ 4571153621781053440 ≤ (shD a b).toNat)) ∧ (shD a b).toNat ≤ 4607182418800017408 := by
  have h : okD1 a b = true := by
    rcases (by omega : b < 101 ∨ (101 ≤ b ∧ b < 161) ∨ (161 ≤ b ∧ b < 201) ∨ 201 ≤ b) with q | q | q | q
    · exact okR_at okS_1 h1 (by omega) h3
    · exact okR_at okS_2 q.1 (by omega) h3
    · exact okR_at okS_3 q.1 (by omega) h3
    · exact okR_at okS_4 q (by omega) h3
  unfold okD1 at h
  split at h
  · rename_i q
    have := Nat.eq_of_beq_eq_true h
    exact ⟨Or.inl ⟨q, this⟩, by omega⟩
  · rename_i q
    have h := Bool.and_eq_true_iff.mp h
    exact ⟨Or.inr ⟨by omega, Nat.le_of_ble_eq_true h.1⟩, Nat.le_of_ble_eq_true h.2⟩
theorem vf_small {x : UInt64} (h : x.toNat ≤ 4607182418800017408) : vf_n64 x := by
  unfold vf_n64
  rw [UInt64.le_iff_toNat_le, UInt64.toNat_and]
  exact Nat.le_trans Nat.and_le_left (Nat.le_trans h (by decide))
/-- it is no NaN -/
theorem cmp_self {x : UInt64} (h : x.toNat ≤ 4607182418800017408) : FP.dcmp x x = some Ordering.eq := by
  show FP.Core.order (FP.Core.decode FP.Core.b64 x.toNat) (FP.Core.decode FP.Core.b64 x.toNat) = _
  have ht : FP.Core.b64.tails = 4503599627370496 := by decide
  have he : FP.Core.b64.exps = 2048 := by decide
  have hE : ¬ FP.Core.fieldE FP.Core.b64 x.toNat = FP.Core.b64.exps - 1 := by
    unfold FP.Core.fieldE
    rw [ht, he]
    omega
  have hd : ∃ (s : Bool) (c : Nat) (q : Int), FP.Core.decode FP.Core.b64 x.toNat = .fin s c q := by
    unfold FP.Core.decode
    rw [if_neg hE]
    split
    · exact ⟨_, _, _, rfl⟩
    · exact ⟨_, _, _, rfl⟩
  obtain ⟨s, c, q, e⟩ := hd
  rw [e]
  show some (compare _ _) = _
  rw [Int.compare_eq_eq.mpr rfl]
def mul1B (n : Nat) : Bool := (List.range n).all (fun a => decide (FP.dmul FP.dconst1 (FP.i2d (Int32.ofInt a)) = FP.i2d (Int32.ofInt a)) && decide (FP.i2d (Int32.ofInt a) &&& 0x7fffffffffffffff ≤ 0x7ff0000000000000))
theorem mul1_all : mul1B 241 = true := by decide +kernel
theorem mul1 {a : Nat} (h : a ≤ 240) : FP.dmul FP.dconst1 (FP.i2d (Int32.ofInt a)) = FP.i2d (Int32.ofInt a) ∧ vf_n64 (FP.i2d (Int32.ofInt a)) := by
  have h := List.all_eq_true.mp mul1_all a (List.mem_range.mpr (by omega))
  have h := Bool.and_eq_true_iff.mp h
  exact ⟨of_decide_eq_true h.1, by unfold vf_n64; exact of_decide_eq_true h.2⟩
/-! ===== the model: the strength left, bits, sums for the digest ===== -/
def fiN (z : Row) : Nat → Int := sumN (fun k => tf z k 5)
theorem fiN_b {z : Row} (ht : wfT z) (n : Nat) (hn : (n : Int) ≤ z 98) : 0 ≤ fiN z n ∧ fiN z n ≤ 20 * n := sumN_b n (fun k hk => by
  have := ht k (by omega)
  unfold wfT1 at this
  show 0 ≤ tf z k 5 ∧ tf z k 5 ≤ 20
  omega)
theorem st_fi {z : Row} (ht : wfT z) (hs : wfS z) : ∀ n : Nat, (n : Int) ≤ z 98 → stN z 0 n + stN z 1 n ≤ fiN z n := by
  intro n
  induction n with
  | zero => intro _; exact Int.le_refl _
  | succ n ih =>
    intro hn
    have := ih (by omega)
    have h1 := ht n (by omega)
    have h2 := (hs n (by omega)).2
    unfold wfT1 at h1
    have a : stN z 0 (n + 1) = stN z 0 n + (if tf z n 0 = 0 then tf z n 2 else 0) := rfl
    have b : stN z 1 (n + 1) = stN z 1 n + (if tf z n 0 = 1 then tf z n 2 else 0) := rfl
    have c : fiN z (n + 1) = fiN z n + tf z n 5 := rfl
    rw [a, b, c]
    split <;> split <;> omega
/-- the share that is left -/
def shZr (z : Row) : UInt64 := if fiN z (z 98).toNat = 0 then FP.dconst1 else shD (stN z 0 (z 98).toNat + stN z 1 (z 98).toNat).toNat (fiN z (z 98).toNat).toNat
theorem shZr_ok {z : Row} (hn : wfN z) (ht : wfT z) (hs : wfS z) : (shZr z).toNat ≤ 4607182418800017408 := by
  have h1 := fiN_b ht (z 98).toNat (by have := hn.1; omega)
  have h2 := st_fi ht hs (z 98).toNat (by have := hn.1; omega)
  have h3 := stN_b ht 0 (z 98).toNat (by have := hn.1; omega)
  have h4 := stN_b ht 1 (z 98).toNat (by have := hn.1; omega)
  have hn2 := hn.2
  unfold shZr
  split
  · decide
  · exact (shD_ok (by omega) (by omega) (by omega)).2
def mx (h v : Int64) : Int64 := Int64.ofNat 31 * h + v
def mxN (f : Nat → Int) (h : Int64) : Nat → Int64
  | 0 => h
  | n + 1 => mx (mxN f h n) (Int64.ofInt (f n))
theorem mxN_s (f : Nat → Int) (h : Int64) (n : Nat) : mxN f h (n + 1) = mx (mxN f h n) (Int64.ofInt (f n)) := rfl
theorem u2_u2L {α : Type} (f : Nat → Nat → α) (a k : Nat) (v w : α) : u2 (u2 f a k v) a k w = u2 f a k w := funext (fun b => funext (fun j => by
  unfold u2
  split <;> rfl))
/-! ===== the model: the digest ===== -/
def fig (d : OD) (w : Int) : Int := if w = 0 then d.1 else if w = 1 then d.2.1 else if w = 2 then d.2.2.1 else d.2.2.2
/-- the order that lies at a place when they are sorted -/
def uwZ (z : Row) (p : Nat) (w : Int) : Int := fig ((srt (os z (z 195).toNat)).getD p (0, 0, 0, 0)) w
theorem fig_od (z : Row) (o : Nat) {w : Int} (hw : 0 ≤ w ∧ w ≤ 3) : fig (od z o) w = z (196 + 4 * o + w.toNat) := by
  unfold fig od
  rcases (by omega : w = 0 ∨ w = 1 ∨ w = 2 ∨ w = 3) with e | e | e | e <;> subst e <;> rfl
theorem uwZ_is {z : Row} {o p : Nat} {w : Int} (hw : 0 ≤ w ∧ w ≤ 3) (ho : (o : Int) < z 195) (hr : rkN z o (z 195).toNat = p) : z (196 + 4 * o + w.toNat) = uwZ z p w := by
  have e := rk_at z (z 195).toNat o (by omega)
  rw [hr, show ((p : Int)).toNat = p by omega] at e
  unfold uwZ
  rw [List.getD_eq_getElem?_getD, e]
  exact (fig_od z o hw).symm
theorem uw_ex {z : Row} {p : Int} (h0 : 0 ≤ p) (h1 : p < z 195) : ∃ o : Nat, (o : Int) < z 195 ∧ rkN z o (z 195).toNat = p := by
  obtain ⟨o, o1, o2⟩ := rk_onto z (z 195).toNat p.toNat (by omega)
  exact ⟨o, by omega, by rw [o2]; omega⟩
abbrev F1 (z : Row) (sv : Int) (w : Nat) : Int := if (w : Int) = 13 then sv else cntZ z w
abbrev F2 (z : Row) (k : Nat) : Int := ceN z ((k : Int) / 3) ((k : Int) % 3)
abbrev F3 (z : Row) (k : Nat) (w : Nat) : Int := trN z k w
abbrev F4 (z : Row) (k : Nat) : Int := uwZ z (k / 4) ((k : Int) % 4)
def dgT (z : Row) (h : Int64) : Nat → Int64
  | 0 => h
  | n + 1 => mx (mxN (F3 z n) (dgT z h n) 9) (Int64.ofInt (whyN z n))
theorem dgT_s (z : Row) (h : Int64) (n : Nat) : dgT z h (n + 1) = mx (mxN (F3 z n) (dgT z h n) 9) (Int64.ofInt (whyN z n)) := rfl
def dgB (z : Row) (sv : Int) (h : Int64) : Int64 := mxN (F4 z) (dgT z (mxN (F2 z) (mxN (F1 z sv) h 14) 288) (z 98).toNat) (4 * z 195).toNat
def dgA (z : Row) (sv : Int) (h : Int64) : Int64 := mx (mx (dgB z sv h) (Int64.ofInt (sfN z (z 96) 96))) (Int64.ofInt (sfN z (z 97) 96))
