/-! ===== the rows of the abstract machine: calls ===== -/
theorem amPop_of : ∀ (n : Nat) (sk as r : List amV), amPop n sk = some (as, r) → sk = as.reverse ++ r ∧ as.length = n := by
  intro n
  induction n with
  | zero => intro sk as r h; cases h; exact ⟨rfl, rfl⟩
  | succ n ih =>
    intro sk as r h
    cases sk with
    | nil => cases h
    | cons v sk =>
      simp only [amPop] at h
      cases hq : amPop n sk with
      | none => rw [hq] at h; cases h
      | some q =>
        obtain ⟨as', r'⟩ := q
        rw [hq] at h
        cases h
        obtain ⟨h1, h2⟩ := ih sk as' r hq
        exact ⟨by rw [h1]; simp, by simp [h2]⟩
theorem amRel.give {G : amG} {h : amH} {H : Heap} (hr : amRel G h H) (c t : Nat) : amRel G (hGive h c t) H := hr
theorem amPc_blind (G : amG) (as : List amV) (h : amH) : FrameBlind (amPc G as h) := fun _ _ _ _ q => q
theorem am_pair {j k : Nat} (hj : j < 3) (hk : k < 3) (h : k ≠ j) : (amEx j, amEx k) ∈ ([("java/lang/IndexOutOfBoundsException", "java/lang/IllegalArgumentException"), ("java/lang/IndexOutOfBoundsException", "java/lang/IllegalStateException"), ("java/lang/IllegalArgumentException", "java/lang/IllegalStateException"), ("java/lang/IllegalArgumentException", "java/lang/IndexOutOfBoundsException"), ("java/lang/IllegalStateException", "java/lang/IndexOutOfBoundsException"), ("java/lang/IllegalStateException", "java/lang/IllegalArgumentException")] : List (String × String)) := by
  have hj' : j = 0 ∨ j = 1 ∨ j = 2 := by omega
  have hk' : k = 0 ∨ k = 1 ∨ k = 2 := by omega
  rcases hj' with rfl | rfl | rfl <;> rcases hk' with rfl | rfl | rfl
  · exact absurd rfl h
  · exact List.mem_of_getElem? (i := 0) rfl
  · exact List.mem_of_getElem? (i := 1) rfl
  · exact List.mem_of_getElem? (i := 3) rfl
  · exact absurd rfl h
  · exact List.mem_of_getElem? (i := 2) rfl
  · exact List.mem_of_getElem? (i := 4) rfl
  · exact List.mem_of_getElem? (i := 5) rfl
  · exact absurd rfl h
section HeapRows
variable {G : amG} {M : amM} {Q : amR → amH → Prop} {p : Program} {e : Env} {R : Room} {s : State} {m : MethodId} {args : Array Value} {below : List Frame} {meth : Method} {c : Code} {Z : State → Prop} {H : Heap} {locs : List Loc} {cells slots : Nat} {LS : Array Slot} {ls : List (Option amV)} {sk : List amV} {h : amH}
variable {K : amK1} {J : amJ1} {pc len : Nat}
/-- what a method's table catches -/
theorem am_catch {j pc t : Nat} (hj : j < 3) : ∀ (l : List (Nat × Nat × Nat × Nat)) (ks : List Nat), (∀ k ∈ ks, k < 3) → amCatch j pc l ks = some t → ∃ (i : Nat) (q : Nat × Nat × Nat × Nat), l[i]? = some q ∧ ks[i]? = some j ∧ (q.1 ≤ pc ∧ pc < q.2.1) ∧ q.2.2.1 = t ∧ ∀ i' q', i' < i → l[i']? = some q' → (¬ (q'.1 ≤ pc ∧ pc < q'.2.1)) ∨ ∃ k, ks[i']? = some k ∧ k < 3 ∧ k ≠ j := by
  intro l
  induction l with
  | nil => intro ks _ h; cases ks <;> cases h
  | cons q l ih =>
    intro ks hk h
    cases ks with
    | nil => obtain ⟨a, b, t0, ct⟩ := q; cases h
    | cons k ks =>
      obtain ⟨a, b, t0, ct⟩ := q
      simp only [amCatch] at h
      split at h
      · rename_i hc
        cases h
        exact ⟨0, (a, b, t, ct), rfl, by rw [← hc.2.2]; rfl, ⟨hc.1, hc.2.1⟩, rfl, fun i' q' hi => absurd hi (Nat.not_lt_zero _)⟩
      · rename_i hc
        obtain ⟨i, q, h1, h2, h3, h4, h5⟩ := ih ks (fun k' h' => hk k' (List.mem_cons_of_mem _ h')) h
        refine ⟨i + 1, q, h1, h2, h3, h4, fun i' q' hi hq' => ?_⟩
        cases i' with
        | zero =>
          cases hq'
          by_cases hp : a ≤ pc ∧ pc < b
          · exact Or.inr ⟨k, rfl, hk k List.mem_cons_self, fun e => hc ⟨hp.1, hp.2, e⟩⟩
          · exact Or.inl hp
        | succ i' => exact h5 i' q' (by omega) hq'
/-- behind a call -/
theorem am_after {S : amS} {r : List amV} {st0 : List Value} (hTb : amTab M) (A : amA G M Q p e R s m args below meth c Z H locs cells slots LS ls r h) (hc : sc S ≤ hC h) (ht : st S ≤ hT h) {a : Array Value}
    (hr : vx_Run p (gl G) e R s m args below meth c H locs cells slots (sc S) (st S) (F0 m pc LS st0) (r.map (amRv (gB G))) (amQ G (amAf M Q S pc K J ls r h) a) (amXC G (amAf M Q S pc K J ls r h)) (fun q => gB G ≤ q))
    (hK : amHK G M Q pc 3 K) (hJ : amHJ G M Q J) : W p (gl G) e R s m args below meth c H locs cells slots Z (F0 m pc LS st0) := by
  have e1 : cells + hC h = R.cells := A.2.2.2.2.2.2.1
  have e2 : slots + hT h = R.slots := A.2.2.2.2.2.2.2.1
  intro T hTH X0
  have hlocs : ∀ L : List Loc, (∀ q ∈ L, gB G ≤ q.base) → ∀ z ∈ locs ++ L, gB G ≤ z.base := fun L hL z hz => (List.mem_append.mp hz).elim (A.lc z) (hL z)
  rcases hr T hTH X0 with ⟨v, st₀, t, T', L, h0, X', hL, e3, e4, ⟨rr, h1, hq, hok, ho, hrel, hsz⟩, stp⟩ | ⟨q, st₀, t, T', L, E, ce, h0, X', hL, e3, e4, ⟨j, h1, hq, hE, hj, hrel, hsz⟩, hce, hcv, hcl, stp⟩
  · have hv : v = rr.map (amRv (gB G)) := by injection ho
    subst hv
    rw [h0] at hsz
    rw [← e3] at hrel hsz
    cases rr with
    | none =>
      have k := hK _ _ _ hq.2 _ _ _ _ _ _ _ _ _ _ _ _ _ _ _ (A.world (sk' := r) (h' := hGive h1 (hC h - sc S) (hT h - st S)) (hrel.give _ _) hsz (hlocs L hL) (by show cells + sc S + (hC h - sc S) = _; omega) (by show slots + st S + (hT h - st S) = _; omega) A.ok)
      obtain ⟨t2, a1, b1⟩ := k T' rfl X'
      exact ⟨t2, stp t2 a1, b1⟩
    | some v =>
      have k := hK _ _ _ hq.2 _ _ _ _ _ _ _ _ _ _ _ _ _ _ _ (A.world (sk' := v :: r) (h' := hGive h1 (hC h - sc S) (hT h - st S)) (hrel.give _ _) hsz (hlocs L hL) (by show cells + sc S + (hC h - sc S) = _; omega) (by show slots + st S + (hT h - st S) = _; omega) (am_all1 (hok v rfl) A.ok))
      obtain ⟨t2, a1, b1⟩ := k T' rfl X'
      exact ⟨t2, stp t2 a1, b1⟩
  · rw [h0] at hsz
    rw [← e3] at hrel hsz hce
    have hw : vx_W p (gl G) e R s m args below meth c T'.heap (locs ++ L) (cells + sc S) (slots + st S) Z (F0 m pc LS (r.map (amRv (gB G)))) q := by
      cases hsh : sh M.1 with
      | nil =>
        have hq2 : Q (Sum.inr j) (hGive h1 (hC h - sc S) (hT h - st S)) := by
          have q2 := hq
          unfold amAf at q2
          rw [hsh] at q2
          exact q2
        rcases A.2.2.1 with hz | ⟨hz, -⟩
        · subst hz
          have htab : c.exceptionTable.toList = [] := by
            have q := A.2.1.2.2.2.2.2.2.2.2.1
            rw [hsh] at q
            exact List.map_eq_nil_iff.mp q
          exact vx_out (fun x hx => by rw [htab] at hx; cases hx) A.lk hce hcv hcl (fun t2 ht2 _ => ⟨j, _, hq2, hE, hj, by rw [ht2]; exact hrel, by rw [ht2]; exact Nat.le_trans A.2.2.2.2.1 hsz⟩) (hlocs L hL) (by omega) (by omega)
        · exact absurd hq2 (hz _ _)
      | cons x0 xs =>
        have hq2 : match amCatch j pc (sh M.1) (amHk M.1) with
            | some t => ∀ q : Nat, J t ls [aO q] (hGive h1 (hC h - sc S) (hT h - st S))
            | none => False := by
          have q2 := hq
          unfold amAf at q2
          dsimp only at q2
          split at q2
          · rename_i h9; rw [hsh] at h9; cases h9
          · exact q2
        cases hca : amCatch j pc (sh M.1) (amHk M.1) with
        | none => rw [hca] at hq2; exact hq2.elim
        | some tt =>
          rw [hca] at hq2
          have hks : ∀ k ∈ amHk M.1, k < 3 := fun k hk => by
            obtain ⟨i, hi⟩ := List.getElem?_of_mem hk
            have hi2 : i < (sh M.1).length := by rw [hTb.1]; exact (List.getElem?_eq_some_iff.mp hi).1
            exact (hTb.2 i _ k (List.getElem?_eq_getElem hi2) hi).1
          obtain ⟨i, qq, g1, g2, g3, g4, g5⟩ := am_catch hj _ _ hks hca
          obtain ⟨-, n0, w1, w2⟩ := hTb.2 i qq j g1 g2
          have htab := A.2.1.2.2.2.2.2.2.2.2.1
          rw [← htab, List.getElem?_map] at g1
          obtain ⟨x, hx1, hx2⟩ := Option.map_eq_some_iff.mp g1
          subst hx2
          have hi : i < c.exceptionTable.toList.length := (List.getElem?_eq_some_iff.mp hx1).1
          have hsplit : c.exceptionTable.toList = c.exceptionTable.toList.take i ++ x :: c.exceptionTable.toList.drop (i + 1) := by
            have := (List.getElem?_eq_some_iff.mp hx1).2
            rw [← this, ← List.drop_eq_getElem_cons hi, List.take_append_drop]
          have hk := hJ _ _ _ _ (hq2 q) _ _ _ _ _ _ _ _ _ _ _ _ _ _ _ (A.world (sk' := [aO q]) (h' := hGive h1 (hC h - sc S) (hT h - st S)) (hrel.give _ _) hsz (hlocs L hL) (by show cells + sc S + (hC h - sc S) = _; omega) (by show slots + st S + (hT h - st S) = _; omega) (am_all1 (v := aO q) trivial (fun _ h => absurd h List.not_mem_nil)))
          rw [hE] at hcl
          refine vx_catch (name := amEx j) (E := amEx j) A.hown _ x _ hsplit (fun z hz => ?_) (by simp [covers, g3.1, g3.2]) n0 (A.w w1 rfl args) (va_Nw.use rfl (va_Nw.warmC A.hW (va_Nw.of rfl (A.1.2.1 _ w2)))) hce hcv hcl (by rw [← show x.handlerPc = tt from g4] at hk; exact hk)
          obtain ⟨i', hi'⟩ := List.getElem?_of_mem hz
          have hlt : i' < i := by
            have := (List.getElem?_eq_some_iff.mp hi').1
            rw [List.length_take] at this; omega
          rw [List.getElem?_take, if_pos hlt] at hi'
          have hi2 : (sh M.1)[i']? = some (z.startPc, z.endPc, z.handlerPc, z.catchType) := by
            rw [← htab, List.getElem?_map, hi']; rfl
          rcases g5 i' _ hlt hi2 with hh | ⟨k, hk1, hk2, hk3⟩
          · refine Or.inl ?_
            simp only [covers, Bool.and_eq_false_iff, decide_eq_false_iff_not]
            rcases Nat.lt_or_ge pc z.startPc with a1 | a1
            · exact Or.inl (by omega)
            · exact Or.inr (fun b1 => hh ⟨a1, b1⟩)
          · exfalso
            have e : amHk M.1 = [] := by
              unfold amHk
              split <;> rfl
            rw [e] at hk1
            simp at hk1
    obtain ⟨t2, a1, b1⟩ := hw T' rfl X'
    exact ⟨t2, stp.trans a1, b1⟩
end HeapRows
