/-! ===== an order more: what holds of the row ===== -/
theorem dSp_zero {z : Row} {op : Int → Bool} {c : Int} {f : Row} (hf : dSp z op c f) {t : Int} (ht : isC t) (h : f t.toNat = 0) : t = c := by
  rcases hf t ht with q | q
  · omega
  · have e := q.2.2.1
    rw [h] at e
    exact e
theorem dS_zero {z : Row} {a b : Int} (ha : isC a) (hb : isC b) (h : dS z a b = 0) : b = a := dSp_zero (dF_sp ha) hb h
theorem nn_self (a : Int) : nn a a = 0 := by
  unfold nn ab
  repeat' split
  all_goals omega
theorem seeI_self (z : Row) (a : Int) : seeI z a a = 1 := seeI_one (fun k h1 h2 => by rw [nn_self] at h2; omega)
theorem ordT_pos {z : Row} {a : Int} {k : Nat} (ha : isC a) (hk : wfT1 z k) : ordT z a k = -1 ∨ (1 ≤ ordT z a k ∧ ordT z a k ≤ 33) := by
  have hc : isC (tf z k 1) := by unfold isC; have := hk.2.1; omega
  have hb := dS_b (z := z) ha hc
  unfold ordT
  split
  · omega
  · rename_i h1
    split
    · omega
    · rename_i h2
      have h3 : dS z a (tf z k 1) ≠ 0 := fun h => by
        have e := dS_zero ha hc h
        rw [e, seeI_self] at h1
        exact h1 rfl
      omega
theorem giveZ_at {z : Row} (k c : Int) (h30 : 0 ≤ z 195 ∧ z 195 < 30) :
    (∀ i : Nat, i < 195 ∨ (316 ≤ i ∧ i ≠ 317) → giveZ z k c i = z i) ∧ giveZ z k c 195 = z 195 + 1 ∧ giveZ z k c 317 = z 317 + 1 ∧
    (∀ i : Nat, 196 ≤ i → i < 196 + 4 * (z 195).toNat → giveZ z k c i = z i) ∧ od (giveZ z k c) (z 195).toNat = (z 317, k, c, z 316 + ordG z k.toNat) := by
  have e0 : (196 + 4 * z 195).toNat = 196 + 4 * (z 195).toNat := by omega
  have e1 : (196 + 4 * z 195 + 1).toNat = 196 + 4 * (z 195).toNat + 1 := by omega
  have e2 : (196 + 4 * z 195 + 2).toNat = 196 + 4 * (z 195).toNat + 2 := by omega
  have e3 : (196 + 4 * z 195 + 3).toNat = 196 + 4 * (z 195).toNat + 3 := by omega
  unfold giveZ
  rw [e0, e1, e2, e3]
  have hn : (z 195).toNat < 30 := by omega
  generalize (z 195).toNat = n at *
  refine ⟨fun i hi => ?_, uz_same _ _ _, ?_, fun i h1 h2 => ?_, ?_⟩
  · rw [uz_ne _ _ (by omega), uz_ne _ _ (by omega), uz_ne _ _ (by omega), uz_ne _ _ (by omega), uz_ne _ _ (by omega), uz_ne _ _ (by omega)]
  · rw [uz_ne _ _ (by omega), uz_same]
  · rw [uz_ne _ _ (by omega), uz_ne _ _ (by omega), uz_ne _ _ (by omega), uz_ne _ _ (by omega), uz_ne _ _ (by omega), uz_ne _ _ (by omega)]
  · unfold od
    rw [uz_ne (j := 196 + 4 * n) _ _ (by omega), uz_ne (j := 196 + 4 * n) _ _ (by omega), uz_ne (j := 196 + 4 * n) _ _ (by omega), uz_ne (j := 196 + 4 * n) _ _ (by omega), uz_ne (j := 196 + 4 * n) _ _ (by omega), uz_same]
    rw [uz_ne (j := 196 + 4 * n + 1) _ _ (by omega), uz_ne (j := 196 + 4 * n + 1) _ _ (by omega), uz_ne (j := 196 + 4 * n + 1) _ _ (by omega), uz_ne (j := 196 + 4 * n + 1) _ _ (by omega), uz_same]
    rw [uz_ne (j := 196 + 4 * n + 2) _ _ (by omega), uz_ne (j := 196 + 4 * n + 2) _ _ (by omega), uz_ne (j := 196 + 4 * n + 2) _ _ (by omega), uz_same]
    rw [uz_ne (j := 196 + 4 * n + 3) _ _ (by omega), uz_ne (j := 196 + 4 * n + 3) _ _ (by omega), uz_same]
theorem giveZ_os {z : Row} (k c : Int) (h30 : 0 ≤ z 195 ∧ z 195 < 30) : os (giveZ z k c) (giveZ z k c 195).toNat = os z (z 195).toNat ++ [(z 317, k, c, z 316 + ordG z k.toNat)] := by
  obtain ⟨g1, g2, g3, g4, g5⟩ := giveZ_at k c h30
  rw [g2, show (z 195 + 1).toNat = (z 195).toNat + 1 by omega, os_s, g5, os_congr g4]
/-- rows that tell the same of field, generals and troops -/
theorem wfB_of {y z : Row} (h : ∀ i : Nat, i < 195 → y i = z i) (hb : wfB z) : wfB y := by
  obtain ⟨hh, hn, ht, hu, hg, hs⟩ := hb
  have hn2 := hn.2
  obtain ⟨a1, a2, a3⟩ := wf_off (y := y) (fun i hi => h i (by omega)) hh hn hg
  have h98 := h 98 (by omega)
  have et : ∀ l g : Nat, (l : Int) < z 98 → g < 8 → tf y l g = tf z l g := fun l g hl hg => h _ (by omega)
  refine ⟨a1, a2, fun l hl => ?_, wfU_of h98 (fun l hl => et l 1 hl (by decide)) (fun l hl q => ?_) hu, a3, fun l hl => ?_⟩
  · rw [h98] at hl
    have := ht l hl
    unfold wfT1 at this ⊢
    rw [et l 0 hl (by decide), et l 1 hl (by decide), et l 2 hl (by decide), et l 3 hl (by decide), et l 4 hl (by decide), et l 5 hl (by decide), et l 6 hl (by decide), et l 7 hl (by decide)]
    exact this
  · rw [et l 4 hl (by decide)] at q; exact q
  · rw [h98] at hl
    rw [et l 4 hl (by decide), et l 2 hl (by decide), et l 5 hl (by decide)]
    exact hs l hl
theorem whyN_0 {z : Row} {k : Nat} (h : whyN z k = 0) : tf z k 4 ≠ 2 ∧ ordG z k ≠ -1 ∧ z 195 ≠ 30 := by
  unfold whyN at h
  split at h
  · omega
  · split at h
    · omega
    · split at h
      · omega
      · rename_i a b c; exact ⟨a, b, c⟩
theorem wfG_g {z : Row} (hg : wfG z) {s : Int} (hs : 0 ≤ s ∧ s ≤ 1) : isC (z (96 + s).toNat) := by
  rcases (by omega : s = 0 ∨ s = 1) with e | e
  · rw [e]; exact hg.1
  · rw [e]; exact hg.2
theorem giveZ_WF {z : Row} {k c : Int} (hW : WF z) (hm : z 316 ≤ 1000) (hk : 0 ≤ k ∧ k < z 98) (hc : isC c) (hy : whyN z k.toNat = 0) (hg : z 317 < 90000) : WF (giveZ z k c) := by
  obtain ⟨hb, ho, hC⟩ := hW
  have h30 := ho.1
  have hw := whyN_0 hy
  have h30' : 0 ≤ z 195 ∧ z 195 < 30 := by omega
  obtain ⟨g1, g2, g3, g4, g5⟩ := giveZ_at k c h30'
  have hos := giveZ_os k c h30'
  have hT := hb.2.2.1 k.toNat (by omega)
  have hgc := wfG_g hb.2.2.2.2.1 hT.1
  have hp := (ordT_pos hgc hT).resolve_left hw.2.1
  have e16 := g1 316 (by omega)
  have e98 := g1 98 (by omega)
  have e18 := g1 318 (by omega)
  have e19 := g1 319 (by omega)
  have e20 := g1 320 (by omega)
  refine ⟨wfB_of (fun i hi => g1 i (by omega)) hb, ?_, ?_⟩
  · refine wfO_of (by omega) (fun d hd => ?_)
    rw [hos] at hd
    rw [e98, e16]
    rcases List.mem_append.mp hd with q | q
    · exact wfO_mem ho q
    · rw [List.mem_singleton.mp q]
      show (0 ≤ k ∧ k < z 98) ∧ isC c ∧ z 316 + 1 ≤ z 316 + ordT z _ k.toNat ∧ z 316 + ordT z _ k.toNat ≤ 1100
      refine ⟨hk, hc, ?_, ?_⟩ <;> omega
  · unfold wfC at hC ⊢
    rw [e16, e18, e19, e20, g3]
    have hn2 := hb.2.1.2
    refine ⟨hC.1, by omega, hC.2.2.1, hC.2.2.2.1, hC.2.2.2.2.1, fun l hl => ?_⟩
    have := hC.2.2.2.2.2 l hl
    have e : tf (giveZ z k c) l 7 = tf z l 7 := g1 _ (by omega)
    rw [e]
    exact this
