/-! ===== the rows of the abstract machine: fields and arrays ===== -/
theorem amWs_at {B : Nat} {cA : Nat → ClassId} {h : amH} {a : Nat} {s : Nat × Nat} (hs : (hS h)[a]? = some s) : (amWs B cA h)[a]? = some (B + a, amCell B cA h a s) := by
  simp [amWs, List.getElem?_map, List.getElem?_zipIdx, hs]
theorem amWs_inv {B : Nat} {cA : Nat → ClassId} {h : amH} {a : Nat} {q : Nat × va_E} (hq : (amWs B cA h)[a]? = some q) : ∃ s, (hS h)[a]? = some s ∧ q = (B + a, amCell B cA h a s) := by
  cases hs : (hS h)[a]? with
  | none => simp [amWs, List.getElem?_map, List.getElem?_zipIdx, hs] at hq
  | some s => rw [amWs_at hs] at hq; cases hq; exact ⟨s, rfl, rfl⟩
theorem amWs_D (B : Nat) (cA : Nat → ClassId) (h : amH) : va_D (fun q => B ≤ q) (amWs B cA h) := by
  refine ⟨fun i j x y hx hy e => ?_, fun k q hq => ?_⟩
  · obtain ⟨s, -, rfl⟩ := amWs_inv hx
    obtain ⟨t, -, rfl⟩ := amWs_inv hy
    have e : B + i = B + j := e
    omega
  · obtain ⟨s, -, rfl⟩ := amWs_inv hq
    exact Nat.le_add_right _ _
theorem amVal_eq {B : Nat} {h h' : amH} {a : Nat} (e1 : ∀ j, hI h' a j = hI h a j) (e2 : ∀ j, hR h' a j = hR h a j) (e3 : ∀ j, hL h' a j = hL h a j) (t k : Nat) : amVal B h' t a k = amVal B h t a k := by
  unfold amVal
  rw [e1, e2, e3]
theorem amCell_eq {B : Nat} {cA : Nat → ClassId} {h h' : amH} {a : Nat} (e1 : ∀ j, hI h' a j = hI h a j) (e2 : ∀ j, hR h' a j = hR h a j) (e3 : ∀ j, hL h' a j = hL h a j) (s : Nat × Nat) : amCell B cA h' a s = amCell B cA h a s := by
  have e4 : amFs B h' s.1 a = amFs B h s.1 a := by
    unfold amFs
    exact List.map_congr_left (fun q _ => amVal_eq e1 e2 e3 _ _)
  have f1 : (fun j => Int32.ofInt (hI h' a j)) = (fun j => Int32.ofInt (hI h a j)) := funext (fun j => by rw [e1])
  have f2 : (fun j => (hR h' a j).map (B + ·)) = (fun j => (hR h a j).map (B + ·)) := funext (fun j => by rw [e2])
  have f3 : (fun j => hL h' a j) = (fun j => hL h a j) := funext (fun j => by rw [e3])
  unfold amCell
  rw [e4, f1, f2, f3]
theorem amFs_at {B : Nat} {h : amH} {ci a k t : Nat} (ht : (amF ci)[k]? = some t) : (amFs B h ci a)[k]? = some (amVal B h t a k) := by
  simp [amFs, List.getElem?_map, List.getElem?_zipIdx, ht]
theorem amFs_len (B : Nat) (h : amH) (ci a : Nat) : (amFs B h ci a).length = (amF ci).length := by simp [amFs]
/-- one field written: the object's fields by the new world -/
theorem amFs_set {B : Nat} {h h' : amH} {ci a k t : Nat} {v : Value} (ht : (amF ci)[k]? = some t) (hv : amVal B h' t a k = v) (ho : ∀ j t', j ≠ k → amVal B h' t' a j = amVal B h t' a j) : (amFs B h ci a).set k v = amFs B h' ci a := by
  have hk : k < (amF ci).length := (List.getElem?_eq_some_iff.mp ht).1
  refine List.ext_getElem? (fun j => ?_)
  by_cases hj : j = k
  · subst hj
    rw [List.getElem?_set_self (by rw [amFs_len]; exact hk), amFs_at ht, hv]
  · rw [List.getElem?_set_ne (Ne.symm hj)]
    cases hq : (amF ci)[j]? with
    | none =>
      have h1 : (amF ci).length ≤ j := by simpa using hq
      rw [List.getElem?_eq_none (by rw [amFs_len]; exact h1), List.getElem?_eq_none (by rw [amFs_len]; exact h1)]
    | some t' => rw [amFs_at hq, amFs_at hq, ho j t' hj]
section HeapRows
variable {G : amG} {M : amM} {Q : amR → amH → Prop} {p : Program} {e : Env} {R : Room} {s : State} {m : MethodId} {args : Array Value} {below : List Frame} {meth : Method} {c : Code} {Z : State → Prop} {H : Heap} {locs : List Loc} {cells slots : Nat} {LS : Array Slot} {ls : List (Option amV)} {sk : List amV} {h : amH}
variable {K : amK1} {J : amJ1} {pc len : Nat} {aux : Nat × Nat × Nat} {S : Option amS}
theorem amA.hW (A : amA G M Q p e R s m args below meth c Z H locs cells slots LS ls sk h) : (gs G).WarmedH s.vm := A.2.1.2.2.2.2.2.2.1
theorem amA.hown (A : amA G M Q p e R s m args below meth c Z H locs cells slots LS ls sk h) : s.vm.findClass M.2.1 = some m.cls := A.2.1.2.2.2.2.2.1
theorem amA.rel (A : amA G M Q p e R s m args below meth c Z H locs cells slots LS ls sk h) : amRel G h H := A.2.2.2.1
theorem amA.w (A : amA G M Q p e R s m args below meth c Z H locs cells slots LS ls sk h) {w : Jvm.Cond} (hw : w ∈ lw_tbl) (g : goodWord w = true) (a' : Array Value) : w.before a' s = true :=
  word_at A.hW (good_of_word g) (A.1.2.1 w hw)
theorem amA.k (A : amA G M Q p e R s m args below meth c Z H locs cells slots LS ls sk h) : va_K (gD G) vwCl (amTys G) s := va_K.moved A.hW.alike A.1.2.2.1
theorem amA.vs (A : amA G M Q p e R s m args below meth c Z H locs cells slots LS ls sk h) : va_S (fun q => gB G ≤ q) s.heap H locs :=
  ⟨A.2.2.2.2.1, fun q _ h2 => by
    have hq : q < gB G := Nat.not_le.mp h2
    rw [A.rel.2.2.1 q hq, A.2.1.2.2.2.2.2.2.2.2.2.2.2.2 q hq], A.2.2.2.2.2.1⟩
/-- another world, on another heap -/
theorem amA.world (A : amA G M Q p e R s m args below meth c Z H locs cells slots LS ls sk h) {h' : amH} {H' : Heap} {locs' : List Loc} {cells' slots' : Nat} {sk' : List amV} (hr : amRel G h' H') (hz : H.size ≤ H'.size) (hl : ∀ z ∈ locs', gB G ≤ z.base) (h1 : cells' + hC h' = R.cells) (h2 : slots' + hT h' = R.slots) (hs : ∀ v ∈ sk', amOk v) : amA G M Q p e R s m args below meth c Z H' locs' cells' slots' LS ls sk' h' :=
  ⟨A.1, A.2.1, A.2.2.1, hr, Nat.le_trans A.2.2.2.2.1 hz, hl, h1, h2, A.hl, hs⟩
theorem amRel_set {h' : amH} {H' : Heap} {a : Nat} {s0 : Nat × Nat} (hr : amRel G h H) (hs : (hS h)[a]? = some s0) (eS : hS h' = hS h) (eX : hX h' = hX h) (hI' : ∀ a k : Nat, amIn (hI h' a k)) (ho : ∀ k, k ≠ a → ∀ s1, amCell (gB G) (gA G) h' k s1 = amCell (gB G) (gA G) h k s1) (he : va_at (gD G) vwCl (gB G + a, amCell (gB G) (gA G) h' a s0) H') (hz : H'.size = H.size) (oq : ∀ q, q ≠ gB G + a → H'[q]? = H[q]?) : amRel G h' H' := by
  refine ⟨fun k q hq => ?_, hI', fun q hq => ?_, ?_, ?_⟩
  · obtain ⟨s1, h1, rfl⟩ := amWs_inv hq
    rw [eS] at h1
    by_cases hk : k = a
    · subst hk
      cases hs.symm.trans h1
      exact he
    · rw [ho k hk]
      exact (hr.1 k _ (amWs_at h1)).kept (oq _ (by show gB G + k ≠ gB G + a; omega))
  · rw [oq q (by have : q < gB G := hq; omega)]
    exact hr.2.2.1 q hq
  · rw [hz, eS]; exact hr.2.2.2.1
  · rw [hz, eS, eX]; exact hr.2.2.2.2
theorem am_locs {locs : List Loc} {B a k : Nat} (h : ∀ z ∈ locs, B ≤ z.base) : ∀ z ∈ locs ++ [⟨B + a, k⟩], B ≤ z.base := fun z hz => by
  rcases List.mem_append.mp hz with q | q
  · exact h z q
  · cases List.mem_singleton.mp q; exact Nat.le_add_right _ _
theorem X_getfield {idx ci k t : Nat} (he : amOkE M (pc, .getfield idx, len, (ci, k, t), S)) (hs : amStep G M Q (pc, .getfield idx, len, (ci, k, t), S) K J ls sk h) (hK : amHK G M Q pc len K) : X G M Q pc ls sk h := by
  obtain ⟨hd, hl, C, T, N, hc, hk, ht, hw⟩ := he
  cases (show len = 3 from hl)
  dsimp only at hc hk ht hw
  intro p e R s m args below meth c Z H locs cells slots LS A
  revert hs A
  rcases sk with _ | ⟨_ | (_ | a) | _ | _ | _, r⟩ <;> first | exact fun q => q.elim | skip
  intro hs A
  obtain ⟨h0, hs⟩ := (id hs : _ ∧ _)
  obtain ⟨hci, hu, -, -, -, hkd⟩ := amCls ci C T N hc
  have e1 : amCell (gB G) (gA G) h a (ci, 0) = .inr (ci, amFs (gB G) h ci a) := if_pos hci
  have e2 := amWs_at (B := gB G) (cA := gA G) h0
  rw [e1] at e2
  have hkd1 := hkd k hk
  rw [List.getD_eq_getElem?_getD, ht] at hkd1
  have hkd1 : amKd t (amFT ci k) := hkd1
  refine va_get A.hx A.hb (Ts := u_ws C T N) (fun w hw' => A.w (hu w hw') (by
    obtain ⟨j, -, rfl⟩ := List.mem_map.mp hw'
    unfold u_lay
    split <;> rfl) args) (fun _ q => q) A.hown A.k A.rel.1 a e2 hc k hk (A.w hw rfl args) (fun _ q => q) (amFs_at ht) hd ?_
  rcases hkd1 with ⟨rfl, -⟩ | ⟨rfl, -⟩ | ⟨rfl, -⟩
  · exact hK _ _ _ hs _ _ _ _ _ _ _ _ _ _ _ _ _ _ _ (A.to (am_all1 (v := aI (hI h a k)) (A.rel.2.1 a k) (am_tl A.ok)))
  · obtain ⟨b, hb, hs⟩ := (id hs : ∃ _, _)
    have q := hK _ _ _ hs _ _ _ _ _ _ _ _ _ _ _ _ _ _ _ (A.to (am_all1 (v := aR (some b)) trivial (am_tl A.ok)))
    have e3 : amVal (gB G) h 1 a k = amRv (gB G) (aR (some b)) := by
      show va_rf ((hR h a k).map (gB G + ·)) = _
      rw [hb]; rfl
    rw [e3]
    exact q
  · exact hK _ _ _ hs _ _ _ _ _ _ _ _ _ _ _ _ _ _ _ (A.to (am_all1 (v := aL (hL h a k)) trivial (am_tl A.ok)))
/-- what a field's own type takes -/
theorem am_nf {t : Nat} {ty : FieldType} (hk : amKd t ty) (B : Nat) (v : amV) (hv : (t = 0 ∧ ∃ x, v = aI x) ∨ (t = 1 ∧ ∃ r, v = aR r) ∨ (t = 2 ∧ ∃ x, v = aL x)) : narrow ty (amRv B v) = amRv B v ∧ fits ty (amRv B v) = true := by
  rcases hk with ⟨rfl, rfl⟩ | ⟨rfl, hr⟩ | ⟨rfl, rfl⟩ <;> rcases hv with ⟨h, x, rfl⟩ | ⟨h, x, rfl⟩ | ⟨h, x, rfl⟩ <;> first | omega | skip
  · exact ⟨rfl, rfl⟩
  · cases ty <;> first | (cases hr; done) | skip
    all_goals cases x <;> exact ⟨rfl, rfl⟩
  · exact ⟨rfl, rfl⟩
/-- a field written -/
theorem am_put {idx ci k t a : Nat} {v : amV} {r : List amV} {h' : amH} (A : amA G M Q p e R s m args below meth c Z H locs cells slots LS ls (v :: aR (some a) :: r) h) (hF : amFld M idx ci k t) (hN : amFin M ci k) (hd : decode (sb M.1) pc = .ok (.putfield idx, 3)) (h0 : (hS h)[a]? = some (ci, 0))
    (hv : (t = 0 ∧ ∃ x, v = aI x) ∨ (t = 1 ∧ ∃ r, v = aR r) ∨ (t = 2 ∧ ∃ x, v = aL x)) (eS : hS h' = hS h) (eX : hX h' = hX h) (eC : hC h' = hC h) (eT : hT h' = hT h) (hI' : ∀ a k : Nat, amIn (hI h' a k)) (ho : ∀ j, j ≠ a → ∀ s1, amCell (gB G) (gA G) h' j s1 = amCell (gB G) (gA G) h j s1) (hval : amVal (gB G) h' t a k = amRv (gB G) v) (hoth : ∀ j t', j ≠ k → amVal (gB G) h' t' a j = amVal (gB G) h t' a j)
    (hK : X G M Q (pc + 3) ls r h') : W p (gl G) e R s m args below meth c H locs cells slots Z (F0 m pc LS ((v :: aR (some a) :: r).map (amRv (gB G)))) := by
  obtain ⟨C, T, N, hc, hk, ht, hw⟩ := hF
  obtain ⟨hci, hu, hty, hnm, -, hkd⟩ := amCls ci C T N hc
  have e1 : amCell (gB G) (gA G) h a (ci, 0) = .inr (ci, amFs (gB G) h ci a) := if_pos hci
  have e1' : amCell (gB G) (gA G) h' a (ci, 0) = .inr (ci, amFs (gB G) h' ci a) := if_pos hci
  have e2 := amWs_at (B := gB G) (cA := gA G) h0
  rw [e1] at e2
  have hkd1 := hkd k hk
  rw [List.getD_eq_getElem?_getD, ht] at hkd1
  have hkd1 : amKd t (amFT ci k) := hkd1
  obtain ⟨hn, hfit⟩ := am_nf hkd1 (gB G) v hv
  have hu' : ∀ w ∈ u_ws C T N, w.before args s = true := fun w hw' => A.w (hu w hw') (by
    obtain ⟨j, -, rfl⟩ := List.mem_map.mp hw'
    unfold u_lay
    split <;> rfl) args
  have hap := va_apart (own := M.2.1) hu' (fun _ q => q) (amFT ci) hty hnm A.k hc
  obtain ⟨rr, h1, cell, q1, q2, q3, q4⟩ := A.rel.1 a _ e2
  have hr : rr = (C, T, N) := Option.some.inj (h1.symm.trans hc)
  subst hr
  obtain ⟨hS1, hfc, kC, hkC, hkind⟩ := A.k.1 ci _ hc
  obtain ⟨cf, kf, fi, f, hi, hsl⟩ := hS1 k hk
  have hlay := hu' _ (u_in_lay hk)
  have hst := (u_facts hfc hkC (u_lays hu' (fun _ q => q) hk) hi).1
  have hlen : k < (amFs (gB G) h ci a).length := by rw [amFs_len]; exact (List.getElem?_eq_some_iff.mp ht).1
  have fin : ∀ H' : Heap, H'[gB G + a]? = some (cell.setSlot f.slot (amRv (gB G) v)) → H'.size = H.size → (∀ q, q ≠ gB G + a → H'[q]? = H[q]?) → W p (gl G) e R s m args below meth c H' (locs ++ [⟨gB G + a, f.slot⟩]) cells slots Z (F0 m (pc + 3) LS (r.map (amRv (gB G)))) := by
    intro H' e3 e4 e5
    rw [hsl] at e3
    have hat : va_at (gD G) vwCl (gB G + a, amCell (gB G) (gA G) h' a (ci, 0)) H' := by
      rw [e1', ← amFs_set ht hval hoth]
      exact ⟨_, hc, t_OB.to (V := updV (vp_V (amFs (gB G) h ci a)) k (amRv (gB G) v)) ⟨_, e3, q2, q3, t_set q4 hap hk _⟩ (fun j _ => vp_updV_set hlen _ j)⟩
    exact hK _ _ _ _ _ _ _ _ _ _ _ _ _ _ _ (A.world (amRel_set A.rel h0 eS eX hI' ho hat e4 e5) (Nat.le_of_eq e4.symm) (am_locs A.2.2.2.2.2.1) (by rw [eC]; exact A.2.2.2.2.2.2.1) (by rw [eT]; exact A.2.2.2.2.2.2.2.1) (am_tl (am_tl A.ok)))
  by_cases hfin : (T k).2.2.2 = true
  · obtain ⟨hdecl, hin2⟩ := hN C T N hc hfin
    have hlay2 := hlay
    unfold u_lay at hlay2
    rw [if_pos hfin] at hlay2
    have hcf : m.cls = cf := by
      obtain ⟨_, _, c', _, _, _, -, -, hf', -, -, -, hown2, -⟩ := Cond.laysFinal_spec hlay2
      have e1 : c' = cf := by have := hi.symm.trans hf'; simp at this; exact this.1.symm
      rw [hdecl] at hown2
      rw [← e1]; exact Option.some.inj (A.hown.symm.trans hown2)
    have h6 := u_fits hfc hkC hkind (Or.inr hlay2) hi (hty k hk) hn hfit
    exact W.putFinK A.hx A.hb A.hown (A.w hw rfl args) hi hst hcf (A.2.1.2.2.2.2.2.2.2.2.2.2.2.1 hin2) (by rw [q2]; exact h6) q1 q3 (by rw [hsl]; exact k2_hasslot (q4 k hk)) rfl rfl hd fin
  · have hlay2 := hlay
    unfold u_lay at hlay2
    rw [if_neg hfin] at hlay2
    have h6 := u_store hfc hkC hkind hlay2 hi (hty k hk) hn hfit
    exact W.putK A.hx A.hb (f := f) ⟨A.hown, A.w hw rfl args, ⟨_, _, _, hi⟩, hst⟩ (by rw [q2]; exact h6) q1 q3 (by rw [hsl]; exact k2_hasslot (q4 k hk)) rfl rfl hd fin
end HeapRows
