/-! ===== the orders under way as a list ===== -/
abbrev OD : Type := Int × Int × Int × Int
def od (z : Row) (k : Nat) : OD := (z (196 + 4 * k), z (196 + 4 * k + 1), z (196 + 4 * k + 2), z (196 + 4 * k + 3))
def os (z : Row) (n : Nat) : List OD := (List.range n).map (od z)
theorem os_s (z : Row) (n : Nat) : os z (n + 1) = os z n ++ [od z n] := by
  unfold os
  rw [List.range_succ, List.map_append]
  rfl
theorem os_len (z : Row) (n : Nat) : (os z n).length = n := by
  unfold os
  rw [List.length_map, List.length_range]
theorem os_mem {z : Row} {n : Nat} {d : OD} : d ∈ os z n ↔ ∃ k : Nat, k < n ∧ od z k = d := by
  unfold os
  rw [List.mem_map]
  exact ⟨fun ⟨k, h1, h2⟩ => ⟨k, List.mem_range.mp h1, h2⟩, fun ⟨k, h1, h2⟩ => ⟨k, List.mem_range.mpr h1, h2⟩⟩
theorem od_congr {y z : Row} {k l : Nat} (h : ∀ i : Nat, i < 4 → y (196 + 4 * k + i) = z (196 + 4 * l + i)) : od y k = od z l := by
  have h0 := h 0 (by decide)
  have h1 := h 1 (by decide)
  have h2 := h 2 (by decide)
  have h3 := h 3 (by decide)
  simp only [Nat.add_zero] at h0
  unfold od
  rw [h0, h1, h2, h3]
theorem os_congr {y z : Row} {n : Nat} (h : ∀ i : Nat, 196 ≤ i → i < 196 + 4 * n → y i = z i) : os y n = os z n := by
  unfold os
  exact List.map_congr_left (fun k hk => by
    have := List.mem_range.mp hk
    exact od_congr (fun i hi => h _ (by omega) (by omega)))
/-- alike but for the orders -/
def eqO (y z : Row) : Prop := ∀ i : Nat, i < 195 ∨ 316 ≤ i → y i = z i
theorem eqO_t {y z : Row} (h : eqO y z) {l g : Nat} (hl : l < 12) (hg : g < 8) : tf y l g = tf z l g := h _ (by omega)
theorem comeZ_eqO {y z : Row} (h : eqO y z) {k : Nat} (hk : k < 12) (v : Int) : eqO (comeZ y k v) (comeZ z k v) := fun i hi => by
  have h4 := h (99 + 8 * k + 4) (by omega)
  have h7 := h (99 + 8 * k + 7) (by omega)
  have h8 := h 318 (by omega)
  have h0 := h i hi
  unfold comeZ
  rw [h4, h7, h8]
  split
  · unfold uz
    rw [h0]
  · unfold uz
    rw [h0]
/-- orders come one after the other -/
def cmF (z : Row) (l : List OD) : Row := l.foldl (fun y d => comeZ y d.2.1.toNat d.2.2.1) z
theorem cmF_snoc (z : Row) (l : List OD) (d : OD) : cmF z (l ++ [d]) = comeZ (cmF z l) d.2.1.toNat d.2.2.1 := by
  unfold cmF
  rw [List.foldl_append]
  rfl
theorem cm_os {z : Row} (ho : ∀ k : Nat, (k : Int) < z 195 → (0 ≤ z (196 + 4 * k + 1) ∧ z (196 + 4 * k + 1) < 12) ∧ isC (z (196 + 4 * k + 2))) (h30 : z 195 ≤ 30) : ∀ k : Nat, (k : Int) ≤ z 195 →
    os (cmS z k).1 (cmS z k).2.toNat = (os z k).filter (fun d => !decide (d.2.2.2 = z 316)) ∧
    eqO (cmS z k).1 (cmF z ((os z k).filter (fun d => decide (d.2.2.2 = z 316)))) := by
  intro k
  induction k with
  | zero => intro _; exact ⟨rfl, fun i _ => rfl⟩
  | succ k ih =>
    intro hk
    obtain ⟨i1, i2⟩ := ih (by omega)
    obtain ⟨h1, h2, h3, h4, h5, h6⟩ := cm_inv ho h30 k (by omega)
    have hok := ho k (by omega)
    have e1 := h2 (196 + 4 * k + 1) (by omega) (by omega)
    have e2 := h2 (196 + 4 * k + 2) (by omega) (by omega)
    have e3 := h2 (196 + 4 * k + 3) (by omega) (by omega)
    have e6 := h2 316
    have eo : od (cmS z k).1 k = od z k := od_congr (fun i hi => h2 _ (by omega) (by omega))
    have t6 : (cmS z k).1 316 = z 316 := h2 316 (by omega) (by omega)
    rw [cmS_s, os_s, List.filter_append, List.filter_append]
    have dd : (od z k).2.2.2 = z (196 + 4 * k + 3) := rfl
    generalize cmS z k = S at *
    split
    · rename_i q
      have q2 : (od z k).2.2.2 = z 316 := by rw [dd, ← e3, ← t6]; exact q
      have f1 : [od z k].filter (fun d => !decide (d.2.2.2 = z 316)) = [] := by
        rw [List.filter_cons_of_neg (by rw [q2]; simp)]; rfl
      have f2 : [od z k].filter (fun d => decide (d.2.2.2 = z 316)) = [od z k] := by
        rw [List.filter_cons_of_pos (by rw [q2]; simp)]; rfl
      rw [f1, f2, List.append_nil, cmF_snoc]
      have hkt : (z (196 + 4 * k + 1)).toNat < 12 := by omega
      refine ⟨?_, ?_⟩
      · rw [← i1]
        refine os_congr (fun i ha hb => ?_)
        rw [e1]
        exact comeZ_off hkt (by omega) (by omega)
      · rw [e1, e2]
        exact comeZ_eqO i2 hkt _
    · rename_i q
      have q2 : ¬ (od z k).2.2.2 = z 316 := by rw [dd, ← e3, ← t6]; exact q
      have f1 : [od z k].filter (fun d => !decide (d.2.2.2 = z 316)) = [od z k] := by
        rw [List.filter_cons_of_pos (by simp [q2])]; rfl
      have f2 : [od z k].filter (fun d => decide (d.2.2.2 = z 316)) = [] := by
        rw [List.filter_cons_of_neg (by simp [q2])]; rfl
      rw [f1, f2, List.append_nil]
      have hc := cpZ_at (z := S.1) (k := k) (l := S.2.toNat) (by omega) 4 (by decide)
      refine ⟨?_, fun i hi => ?_⟩
      · show os (cpZ S.1 k S.2.toNat 4) (S.2 + 1).toNat = _
        rw [show (S.2 + 1).toNat = S.2.toNat + 1 by omega, os_s]
        have a1 : os (cpZ S.1 k S.2.toNat 4) S.2.toNat = os S.1 S.2.toNat := os_congr (fun i ha hb => by rw [hc i, if_neg (by omega)])
        have a2 : od (cpZ S.1 k S.2.toNat 4) S.2.toNat = od S.1 k := od_congr (fun i hi => by rw [hc _, if_pos (by omega)]; exact congrArg S.1 (by omega))
        rw [a1, a2, i1, eo]
      · show cpZ S.1 k S.2.toNat 4 i = _
        rw [hc i, if_neg (by omega)]
        exact i2 i hi
/-- what is left, and what has come -/
theorem comeAll_os {z : Row} (ho : ∀ k : Nat, (k : Int) < z 195 → (0 ≤ z (196 + 4 * k + 1) ∧ z (196 + 4 * k + 1) < 12) ∧ isC (z (196 + 4 * k + 2))) (h30 : 0 ≤ z 195 ∧ z 195 ≤ 30) :
    os (comeAllZ z) (comeAllZ z 195).toNat = (os z (z 195).toNat).filter (fun d => !decide (d.2.2.2 = z 316)) ∧
    eqO (comeAllZ z) (cmF z ((os z (z 195).toNat).filter (fun d => decide (d.2.2.2 = z 316)))) := by
  have h := cm_os ho h30.2 (z 195).toNat (by omega)
  have e : comeAllZ z 195 = (cmS z (z 195).toNat).2 := uz_same _ _ _
  refine ⟨?_, fun i hi => ?_⟩
  · rw [e, ← h.1]
    exact os_congr (fun i ha hb => uz_ne _ _ (by omega))
  · show uz _ 195 _ i = _
    rw [uz_ne _ _ (by omega)]
    exact h.2 i hi
