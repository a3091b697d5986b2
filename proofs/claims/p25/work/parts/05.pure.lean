/-! ===== the rows of the abstract machine: what does not touch the heap ===== -/
theorem amI_t {x : Int} (h : amIn x) : (Int32.ofInt x).toInt = x := Int32.toInt_ofInt_of_le (by have := h.1; omega) (by have := h.2; omega)
theorem amI_in (x : Int32) : amIn x.toInt := ⟨by have := x.le_toInt; omega, by have := x.toInt_lt; omega⟩
theorem amI_of (x : Int32) : Int32.ofInt x.toInt = x := Int32.ofInt_toInt x
theorem amI_eq {x y : Int} (hx : amIn x) (hy : amIn y) : Int32.ofInt x = Int32.ofInt y ↔ x = y := ⟨fun h => by rw [← amI_t hx, ← amI_t hy, h], fun h => by rw [h]⟩
theorem amI_lt {x y : Int} (hx : amIn x) (hy : amIn y) : Int32.ofInt x < Int32.ofInt y ↔ x < y := by rw [Int32.lt_iff_toInt_lt, amI_t hx, amI_t hy]
theorem amI_le {x y : Int} (hx : amIn x) (hy : amIn y) : Int32.ofInt x ≤ Int32.ofInt y ↔ x ≤ y := by rw [Int32.le_iff_toInt_le, amI_t hx, amI_t hy]
theorem amI_0 : Int32.ofInt 0 = 0 := by decide
theorem amIn_0 : amIn 0 := ⟨by decide, by decide⟩
theorem amI_div {x y : Int} (hx : amIn x) (hy : amIn y) (h : amIn (Int.tdiv x y)) : Int32.ofInt x / Int32.ofInt y = Int32.ofInt (Int.tdiv x y) := by
  rw [← amI_of (Int32.ofInt x / Int32.ofInt y), Int32.toInt_div, amI_t hx, amI_t hy]
  congr 1
  rw [Int.bmod_eq_of_le (by have := h.1; omega) (by have := h.2; omega)]
theorem amI_rem {x y : Int} (hx : amIn x) (hy : amIn y) (h : amIn (Int.tdiv x y)) : Int32.ofInt x - Int32.ofInt x / Int32.ofInt y * Int32.ofInt y = Int32.ofInt (Int.tmod x y) := by
  rw [amI_div hx hy h, ← Int32.ofInt_mul, ← Int32.ofInt_sub]
  congr 1
  have := Int.mul_tdiv_add_tmod x y
  rw [Int.mul_comm] at this
  omega
theorem amIn_rem {x y : Int} (hx : amIn x) : amIn (Int.tmod x y) := by
  have h1 := hx.1
  have h2 := hx.2
  have h3 : (Int.tmod x y).natAbs = x.natAbs % y.natAbs := Int.natAbs_tmod x y
  have h4 := Nat.mod_le x.natAbs y.natAbs
  rcases Int.le_total 0 x with h | h
  · have a := Int.tmod_nonneg y h
    exact ⟨by omega, by omega⟩
  · have a := Int.tmod_nonneg y (a := -x) (by omega)
    rw [Int.neg_tmod] at a
    exact ⟨by omega, by omega⟩
theorem amI_l {x : Int} (hx : amIn x) : (Int32.ofInt x).toInt64 = Int64.ofInt x := by
  rw [← Int64.ofInt_toInt (Int32.ofInt x).toInt64, Int32.toInt_toInt64, amI_t hx]
theorem amLs_at {B nL : Nat} {ls : List (Option amV)} {LS : Array Slot} (h : amLs B nL ls LS) {i : Nat} {v : amV} (g : amGet ls i = some v) : LS[i]? = some (.val (amRv B v)) := (h.2.2.2 i v g).1
theorem amLs_ok {B nL : Nat} {ls : List (Option amV)} {LS : Array Slot} (h : amLs B nL ls LS) {i : Nat} {v : amV} (g : amGet ls i = some v) : amOk v := (h.2.2.2 i v g).2
theorem amCat_r (B : Nat) (v : amV) : (amRv B v).category = amCat v := by
  rcases v with x | _ | _ | _ | _
  · rfl
  · rename_i r; cases r <;> rfl
  · rfl
  · rfl
  · rfl
theorem amSet_get : ∀ (l : List (Option amV)) (i j : Nat) (v : Option amV), amGet (amSet l i v) j = if j = i ∧ i < l.length then v else amGet l j := by
  intro l
  induction l with
  | nil => intro i j v; simp [amSet, amGet]
  | cons a l ih =>
    intro i j v
    cases i with
    | zero => cases j <;> simp [amSet, amGet]
    | succ i => cases j with
      | zero => simp [amSet, amGet]
      | succ j => simp [amSet, amGet, ih i j v]
theorem amSet_len : ∀ (l : List (Option amV)) (i : Nat) (v : Option amV), (amSet l i v).length = l.length := by
  intro l
  induction l with
  | nil => intro i v; rfl
  | cons a l ih => intro i v; cases i <;> simp [amSet, ih]
theorem amCut_len (l : List (Option amV)) (i : Nat) : (amCut l i).length = l.length := by
  cases i with
  | zero => rfl
  | succ j =>
    simp only [amCut]
    split
    · split
      · rw [amSet_len]
      · rfl
    · rfl
theorem amCut_get {l : List (Option amV)} {i j : Nat} {v : amV} (h : amGet (amCut l i) j = some v) : amGet l j = some v ∧ ¬ (j + 1 = i ∧ amCat v = 2) := by
  cases i with
  | zero => exact ⟨h, fun q => by omega⟩
  | succ k =>
    simp only [amCut] at h
    split at h
    · rename_i w hw
      split at h
      · rename_i hc
        rw [amSet_get] at h
        split at h
        · cases h
        · rename_i hn
          refine ⟨h, fun q => hn ⟨by omega, ?_⟩⟩
          rcases Nat.lt_or_ge k l.length with z | z
          · exact z
          · exfalso
            have : ∀ (l : List (Option amV)) (k : Nat), l.length ≤ k → amGet l k = none := by
              intro l
              induction l with
              | nil => intro k _; rfl
              | cons a l ih => intro k hk; cases k with
                | zero => simp at hk
                | succ k => exact ih k (by simpa using hk)
            rw [this l k z] at hw; cases hw
      · rename_i hc
        refine ⟨h, fun q => hc ?_⟩
        have : j = k := by omega
        subst this
        rw [hw] at h; cases h; exact q.2
    · rename_i hw
      refine ⟨h, fun q => ?_⟩
      have : j = k := by omega
      subst this
      rw [hw] at h; cases h
/-- a list of all that is known -/
def amKn (B : Nat) (ls : List (Option amV)) : List (Nat × Value) := (List.range ls.length).filterMap (fun i => (amGet ls i).map (fun v => (i, amRv B v)))
theorem amGet_lt : ∀ (l : List (Option amV)) (k : Nat) (v : amV), amGet l k = some v → k < l.length := by
  intro l
  induction l with
  | nil => intro k v h; cases h
  | cons a l ih => intro k v h; cases k with
    | zero => simp
    | succ k => have := ih k v h; simp; omega
theorem amKn_mem {B : Nat} {ls : List (Option amV)} {q : Nat × Value} : q ∈ amKn B ls ↔ ∃ v, amGet ls q.1 = some v ∧ q.2 = amRv B v := by
  constructor
  · intro h
    obtain ⟨i, -, hi⟩ := List.mem_filterMap.mp h
    cases hg : amGet ls i with
    | none => rw [hg] at hi; cases hi
    | some v => rw [hg] at hi; cases hi; exact ⟨v, hg, rfl⟩
  · rintro ⟨v, h1, h2⟩
    refine List.mem_filterMap.mpr ⟨q.1, List.mem_range.mpr (amGet_lt _ _ _ h1), ?_⟩
    rw [h1]
    show some (q.1, amRv B v) = some q
    rw [← h2]
theorem amLs_has {B nL : Nat} {ls : List (Option amV)} {LS : Array Slot} (h : amLs B nL ls LS) : lv_has LS nL (amKn B ls) := by
  refine ⟨h.1, h.2.1, fun q hq => ?_⟩
  obtain ⟨v, h1, h2⟩ := amKn_mem.mp hq
  rw [h2]; exact (h.2.2.2 _ _ h1).1
theorem amLs_st1 {B nL : Nat} {ls : List (Option amV)} {LS LS' : Array Slot} {i : Nat} {v : amV} (h : amLs B nL ls LS) (hv : amOk v) (hn : i < nL)
    (h' : lv_has LS' nL ((i, amRv B v) :: (amKn B ls).filter (fun q => !(q.1 == i) && !(q.1 + 1 == i && q.2.category == 2)))) : amLs B nL (amSt1 ls i v) LS' := by
  refine ⟨h'.1, h'.2.1, by rw [amSt1, amSet_len, amCut_len]; exact h.2.2.1, fun j w hj => ?_⟩
  rw [amSt1, amSet_get, amCut_len, h.2.2.1] at hj
  split at hj
  · rename_i q
    cases hj
    rw [q.1]
    exact ⟨h'.2.2 _ List.mem_cons_self, hv⟩
  · rename_i q
    obtain ⟨g1, g2⟩ := amCut_get hj
    refine ⟨h'.2.2 (j, amRv B w) (List.mem_cons_of_mem _ (List.mem_filter.mpr ⟨amKn_mem.mpr ⟨w, g1, rfl⟩, ?_⟩)), (h.2.2.2 j w g1).2⟩
    have hji : ¬ j = i := fun z => q ⟨z, hn⟩
    simp only [amCat_r, Bool.and_eq_true, Bool.not_eq_true', beq_eq_false_iff_ne, ne_eq, Bool.and_eq_false_iff, beq_iff_eq]
    refine ⟨hji, ?_⟩
    rcases Nat.decEq (j + 1) i with a | a
    · exact Or.inl a
    · exact Or.inr (fun z => g2 ⟨a, z⟩)
theorem amLs_st2 {B nL : Nat} {ls : List (Option amV)} {LS LS' : Array Slot} {i : Nat} {v : amV} (h : amLs B nL ls LS) (hv : amOk v) (hn : i + 1 < nL)
    (h' : lv_has LS' nL ((i, amRv B v) :: (amKn B ls).filter (fun q => !(q.1 == i) && (!(q.1 == i + 1) && !(q.1 + 1 == i && q.2.category == 2))))) : amLs B nL (amSt2 ls i v) LS' := by
  refine ⟨h'.1, h'.2.1, by rw [amSt2, amSet_len, amSet_len, amCut_len]; exact h.2.2.1, fun j w hj => ?_⟩
  rw [amSt2, amSet_get, amSet_len, amCut_len, h.2.2.1] at hj
  split at hj
  · cases hj
  · rename_i q0
    rw [amSet_get, amCut_len, h.2.2.1] at hj
    split at hj
    · rename_i q
      cases hj
      rw [q.1]
      exact ⟨h'.2.2 _ List.mem_cons_self, hv⟩
    · rename_i q
      obtain ⟨g1, g2⟩ := amCut_get hj
      refine ⟨h'.2.2 (j, amRv B w) (List.mem_cons_of_mem _ (List.mem_filter.mpr ⟨amKn_mem.mpr ⟨w, g1, rfl⟩, ?_⟩)), (h.2.2.2 j w g1).2⟩
      have hji : ¬ j = i := fun z => q ⟨z, by omega⟩
      have hji1 : ¬ j = i + 1 := fun z => q0 ⟨z, hn⟩
      simp only [amCat_r, Bool.and_eq_true, Bool.not_eq_true', beq_eq_false_iff_ne, ne_eq, Bool.and_eq_false_iff, beq_iff_eq]
      refine ⟨hji, hji1, ?_⟩
      rcases Nat.decEq (j + 1) i with a | a
      · exact Or.inl a
      · exact Or.inr (fun z => g2 ⟨a, z⟩)
section PureRows
variable {G : amG} {M : amM} {Q : amR → amH → Prop} {p : Program} {e : Env} {R : Room} {s : State} {m : MethodId} {args : Array Value} {below : List Frame} {meth : Method} {c : Code} {Z : State → Prop} {H : Heap} {locs : List Loc} {cells slots : Nat} {LS : Array Slot} {ls : List (Option amV)} {sk : List amV} {h : amH}
theorem amA.hx (A : amA G M Q p e R s m args below meth c Z H locs cells slots LS ls sk h) : p.tables.exec = Jvm.exec := A.2.1.1
theorem amA.hb (A : amA G M Q p e R s m args below meth c Z H locs cells slots LS ls sk h) : c.code = sb M.1 := A.2.1.2.1
theorem amA.hl (A : amA G M Q p e R s m args below meth c Z H locs cells slots LS ls sk h) : amLs (gB G) (sm M.1) ls LS := A.2.2.2.2.2.2.2.2.1
theorem amA.ok (A : amA G M Q p e R s m args below meth c Z H locs cells slots LS ls sk h) : ∀ v ∈ sk, amOk v := A.2.2.2.2.2.2.2.2.2
/-- other values on the stack -/
theorem amA.to (A : amA G M Q p e R s m args below meth c Z H locs cells slots LS ls sk h) {sk' : List amV} (hs : ∀ v ∈ sk', amOk v) : amA G M Q p e R s m args below meth c Z H locs cells slots LS ls sk' h :=
  ⟨A.1, A.2.1, A.2.2.1, A.2.2.2.1, A.2.2.2.2.1, A.2.2.2.2.2.1, A.2.2.2.2.2.2.1, A.2.2.2.2.2.2.2.1, A.hl, hs⟩
theorem amA.toL (A : amA G M Q p e R s m args below meth c Z H locs cells slots LS ls sk h) {sk' : List amV} {ls' : List (Option amV)} {LS' : Array Slot} (hl : amLs (gB G) (sm M.1) ls' LS') (hs : ∀ v ∈ sk', amOk v) : amA G M Q p e R s m args below meth c Z H locs cells slots LS' ls' sk' h :=
  ⟨A.1, A.2.1, A.2.2.1, A.2.2.2.1, A.2.2.2.2.1, A.2.2.2.2.2.1, A.2.2.2.2.2.2.1, A.2.2.2.2.2.2.2.1, hl, hs⟩
theorem am_all1 {v : amV} {r : List amV} (hv : amOk v) (hr : ∀ w ∈ r, amOk w) : ∀ w ∈ v :: r, amOk w := fun w hw => (List.mem_cons.mp hw).elim (fun q => q ▸ hv) (hr w)
theorem am_hd {v : amV} {r : List amV} (h : ∀ w ∈ v :: r, amOk w) : amOk v := h v List.mem_cons_self
theorem am_tl {v : amV} {r : List amV} (h : ∀ w ∈ v :: r, amOk w) : ∀ w ∈ r, amOk w := fun w hw => h w (List.mem_cons_of_mem _ hw)
variable {K : amK1} {J : amJ1} {pc len : Nat} {aux : Nat × Nat × Nat} {S : Option amS}
abbrev amHK (G : amG) (M : amM) (Q : amR → amH → Prop) (pc len : Nat) (K : amK1) : Prop := ∀ ls sk h, K ls sk h → X G M Q (pc + len) ls sk h
abbrev amHJ (G : amG) (M : amM) (Q : amR → amH → Prop) (J : amJ1) : Prop := ∀ t ls sk h, J t ls sk h → X G M Q t ls sk h
theorem X_iload {k : Nat} (he : amOkE M (pc, .iload k, len, aux, S)) (hs : amStep G M Q (pc, .iload k, len, aux, S) K J ls sk h) (hK : amHK G M Q pc len K) : X G M Q pc ls sk h := by
  obtain ⟨hd, hl⟩ := he
  cases (show len = 2 from hl)
  intro p e R s m args below meth c Z H locs cells slots LS A
  have hs : amLdI (fun v => K ls (v :: sk) h) (amGet ls k) := hs
  revert hs
  cases hg : amGet ls k with
  | none => exact fun q => q.elim
  | some v =>
    rcases v with x | r | x | x | a <;> first | exact fun q => q.elim | (intro hs; exact lv_iload A.hx A.hb hd (amLs_at A.hl hg) (hK _ _ _ hs _ _ _ _ _ _ _ _ _ _ _ _ _ _ _ (A.to (am_all1 (amLs_ok A.hl hg) A.ok))))
theorem X_iload_n {k : Fin 4} (he : amOkE M (pc, .iload_n k, len, aux, S)) (hs : amStep G M Q (pc, .iload_n k, len, aux, S) K J ls sk h) (hK : amHK G M Q pc len K) : X G M Q pc ls sk h := by
  obtain ⟨hd, hl⟩ := he
  cases (show len = 1 from hl)
  intro p e R s m args below meth c Z H locs cells slots LS A
  have hs : amLdI (fun v => K ls (v :: sk) h) (amGet ls k.val) := hs
  revert hs
  cases hg : amGet ls k.val with
  | none => exact fun q => q.elim
  | some v =>
    rcases v with x | r | x | x | a <;> first | exact fun q => q.elim | (intro hs; exact lv_iload_n A.hx A.hb hd rfl (amLs_at A.hl hg) (hK _ _ _ hs _ _ _ _ _ _ _ _ _ _ _ _ _ _ _ (A.to (am_all1 (amLs_ok A.hl hg) A.ok))))
theorem X_lload {k : Nat} (he : amOkE M (pc, .lload k, len, aux, S)) (hs : amStep G M Q (pc, .lload k, len, aux, S) K J ls sk h) (hK : amHK G M Q pc len K) : X G M Q pc ls sk h := by
  obtain ⟨hd, hl⟩ := he
  cases (show len = 2 from hl)
  intro p e R s m args below meth c Z H locs cells slots LS A
  have hs : amLdL (fun v => K ls (v :: sk) h) (amGet ls k) := hs
  revert hs
  cases hg : amGet ls k with
  | none => exact fun q => q.elim
  | some v =>
    rcases v with x | r | x | x | a <;> first | exact fun q => q.elim | (intro hs; exact lv_lload A.hx A.hb hd (amLs_at A.hl hg) (hK _ _ _ hs _ _ _ _ _ _ _ _ _ _ _ _ _ _ _ (A.to (am_all1 (amLs_ok A.hl hg) A.ok))))
theorem X_lload_n {k : Fin 4} (he : amOkE M (pc, .lload_n k, len, aux, S)) (hs : amStep G M Q (pc, .lload_n k, len, aux, S) K J ls sk h) (hK : amHK G M Q pc len K) : X G M Q pc ls sk h := by
  obtain ⟨hd, hl⟩ := he
  cases (show len = 1 from hl)
  intro p e R s m args below meth c Z H locs cells slots LS A
  have hs : amLdL (fun v => K ls (v :: sk) h) (amGet ls k.val) := hs
  revert hs
  cases hg : amGet ls k.val with
  | none => exact fun q => q.elim
  | some v =>
    rcases v with x | r | x | x | a <;> first | exact fun q => q.elim | (intro hs; exact lv_lload_n A.hx A.hb hd rfl (amLs_at A.hl hg) (hK _ _ _ hs _ _ _ _ _ _ _ _ _ _ _ _ _ _ _ (A.to (am_all1 (amLs_ok A.hl hg) A.ok))))
theorem X_dload {k : Nat} (he : amOkE M (pc, .dload k, len, aux, S)) (hs : amStep G M Q (pc, .dload k, len, aux, S) K J ls sk h) (hK : amHK G M Q pc len K) : X G M Q pc ls sk h := by
  obtain ⟨hd, hl⟩ := he
  cases (show len = 2 from hl)
  intro p e R s m args below meth c Z H locs cells slots LS A
  have hs : amLdD (fun v => K ls (v :: sk) h) (amGet ls k) := hs
  revert hs
  cases hg : amGet ls k with
  | none => exact fun q => q.elim
  | some v =>
    rcases v with x | r | x | x | a <;> first | exact fun q => q.elim | (intro hs; exact lv_dload A.hx A.hb hd (amLs_at A.hl hg) (hK _ _ _ hs _ _ _ _ _ _ _ _ _ _ _ _ _ _ _ (A.to (am_all1 (amLs_ok A.hl hg) A.ok))))
theorem X_dload_n {k : Fin 4} (he : amOkE M (pc, .dload_n k, len, aux, S)) (hs : amStep G M Q (pc, .dload_n k, len, aux, S) K J ls sk h) (hK : amHK G M Q pc len K) : X G M Q pc ls sk h := by
  obtain ⟨hd, hl⟩ := he
  cases (show len = 1 from hl)
  intro p e R s m args below meth c Z H locs cells slots LS A
  have hs : amLdD (fun v => K ls (v :: sk) h) (amGet ls k.val) := hs
  revert hs
  cases hg : amGet ls k.val with
  | none => exact fun q => q.elim
  | some v =>
    rcases v with x | r | x | x | a <;> first | exact fun q => q.elim | (intro hs; exact lv_dload_n A.hx A.hb hd rfl (amLs_at A.hl hg) (hK _ _ _ hs _ _ _ _ _ _ _ _ _ _ _ _ _ _ _ (A.to (am_all1 (amLs_ok A.hl hg) A.ok))))
theorem X_aload {k : Nat} (he : amOkE M (pc, .aload k, len, aux, S)) (hs : amStep G M Q (pc, .aload k, len, aux, S) K J ls sk h) (hK : amHK G M Q pc len K) : X G M Q pc ls sk h := by
  obtain ⟨hd, hl⟩ := he
  cases (show len = 2 from hl)
  intro p e R s m args below meth c Z H locs cells slots LS A
  have hs : amLdR (fun v => K ls (v :: sk) h) (amGet ls k) := hs
  revert hs
  cases hg : amGet ls k with
  | none => exact fun q => q.elim
  | some v =>
    rcases v with x | (_ | r) | x | x | a <;> first | exact fun q => q.elim | (intro hs; exact lv_aload A.hx A.hb hd (amLs_at A.hl hg) (hK _ _ _ hs _ _ _ _ _ _ _ _ _ _ _ _ _ _ _ (A.to (am_all1 (amLs_ok A.hl hg) A.ok))))
theorem X_aload_n {k : Fin 4} (he : amOkE M (pc, .aload_n k, len, aux, S)) (hs : amStep G M Q (pc, .aload_n k, len, aux, S) K J ls sk h) (hK : amHK G M Q pc len K) : X G M Q pc ls sk h := by
  obtain ⟨hd, hl⟩ := he
  cases (show len = 1 from hl)
  intro p e R s m args below meth c Z H locs cells slots LS A
  have hs : amLdR (fun v => K ls (v :: sk) h) (amGet ls k.val) := hs
  revert hs
  cases hg : amGet ls k.val with
  | none => exact fun q => q.elim
  | some v =>
    rcases v with x | (_ | r) | x | x | a <;> first | exact fun q => q.elim | (intro hs; exact lv_aload_n A.hx A.hb hd rfl (amLs_at A.hl hg) (hK _ _ _ hs _ _ _ _ _ _ _ _ _ _ _ _ _ _ _ (A.to (am_all1 (amLs_ok A.hl hg) A.ok))))
theorem X_istore {k : Nat} (he : amOkE M (pc, .istore k, len, aux, S)) (hs : amStep G M Q (pc, .istore k, len, aux, S) K J ls sk h) (hK : amHK G M Q pc len K) : X G M Q pc ls sk h := by
  obtain ⟨hd, hl, hn⟩ := he
  cases (show len = 2 from hl)
  intro p e R s m args below meth c Z H locs cells slots LS A
  have hs : amStI (fun v r => K (amSt1 ls k v) r h) sk := hs
  revert hs A
  rcases sk with _ | ⟨v, r⟩
  · exact fun _ q => q.elim
  · rcases v with x | r | x | x | a <;> first | exact fun _ q => q.elim | (intro A hs; exact lv_istore A.hx A.hb hd (amLs_has A.hl) hn rfl (fun LS' hl' => hK _ _ _ hs _ _ _ _ _ _ _ _ _ _ _ _ _ _ _ (A.toL (amLs_st1 A.hl (am_hd A.ok) hn hl') (am_tl A.ok))))
theorem X_istore_n {k : Fin 4} (he : amOkE M (pc, .istore_n k, len, aux, S)) (hs : amStep G M Q (pc, .istore_n k, len, aux, S) K J ls sk h) (hK : amHK G M Q pc len K) : X G M Q pc ls sk h := by
  obtain ⟨hd, hl, hn⟩ := he
  cases (show len = 1 from hl)
  intro p e R s m args below meth c Z H locs cells slots LS A
  have hs : amStI (fun v r => K (amSt1 ls k.val v) r h) sk := hs
  revert hs A
  rcases sk with _ | ⟨v, r⟩
  · exact fun _ q => q.elim
  · rcases v with x | r | x | x | a <;> first | exact fun _ q => q.elim | (intro A hs; exact lv_istore_n A.hx A.hb hd rfl (amLs_has A.hl) hn rfl (fun LS' hl' => hK _ _ _ hs _ _ _ _ _ _ _ _ _ _ _ _ _ _ _ (A.toL (amLs_st1 A.hl (am_hd A.ok) hn hl') (am_tl A.ok))))
theorem X_astore {k : Nat} (he : amOkE M (pc, .astore k, len, aux, S)) (hs : amStep G M Q (pc, .astore k, len, aux, S) K J ls sk h) (hK : amHK G M Q pc len K) : X G M Q pc ls sk h := by
  obtain ⟨hd, hl, hn⟩ := he
  cases (show len = 2 from hl)
  intro p e R s m args below meth c Z H locs cells slots LS A
  have hs : amStR (fun v r => K (amSt1 ls k v) r h) sk := hs
  revert hs A
  rcases sk with _ | ⟨v, r⟩
  · exact fun _ q => q.elim
  · rcases v with x | (_ | r) | x | x | a <;> first | exact fun _ q => q.elim | (intro A hs; exact lv_astore A.hx A.hb hd (amLs_has A.hl) hn rfl (fun LS' hl' => hK _ _ _ hs _ _ _ _ _ _ _ _ _ _ _ _ _ _ _ (A.toL (amLs_st1 A.hl (am_hd A.ok) hn hl') (am_tl A.ok))))
theorem X_astore_n {k : Fin 4} (he : amOkE M (pc, .astore_n k, len, aux, S)) (hs : amStep G M Q (pc, .astore_n k, len, aux, S) K J ls sk h) (hK : amHK G M Q pc len K) : X G M Q pc ls sk h := by
  obtain ⟨hd, hl, hn⟩ := he
  cases (show len = 1 from hl)
  intro p e R s m args below meth c Z H locs cells slots LS A
  have hs : amStR (fun v r => K (amSt1 ls k.val v) r h) sk := hs
  revert hs A
  rcases sk with _ | ⟨v, r⟩
  · exact fun _ q => q.elim
  · rcases v with x | (_ | r) | x | x | a <;> first | exact fun _ q => q.elim | (intro A hs; exact lv_astore_n A.hx A.hb hd rfl (amLs_has A.hl) hn rfl (fun LS' hl' => hK _ _ _ hs _ _ _ _ _ _ _ _ _ _ _ _ _ _ _ (A.toL (amLs_st1 A.hl (am_hd A.ok) hn hl') (am_tl A.ok))))
theorem X_lstore {k : Nat} (he : amOkE M (pc, .lstore k, len, aux, S)) (hs : amStep G M Q (pc, .lstore k, len, aux, S) K J ls sk h) (hK : amHK G M Q pc len K) : X G M Q pc ls sk h := by
  obtain ⟨hd, hl, hn⟩ := he
  cases (show len = 2 from hl)
  intro p e R s m args below meth c Z H locs cells slots LS A
  have hs : amStL (fun v r => K (amSt2 ls k v) r h) sk := hs
  revert hs A
  rcases sk with _ | ⟨v, r⟩
  · exact fun _ q => q.elim
  · rcases v with x | r | x | x | a <;> first | exact fun _ q => q.elim | (intro A hs; exact lv_lstore A.hx A.hb hd (amLs_has A.hl) hn rfl (fun LS' hl' => hK _ _ _ hs _ _ _ _ _ _ _ _ _ _ _ _ _ _ _ (A.toL (amLs_st2 A.hl (am_hd A.ok) hn hl') (am_tl A.ok))))
theorem X_lstore_n {k : Fin 4} (he : amOkE M (pc, .lstore_n k, len, aux, S)) (hs : amStep G M Q (pc, .lstore_n k, len, aux, S) K J ls sk h) (hK : amHK G M Q pc len K) : X G M Q pc ls sk h := by
  obtain ⟨hd, hl, hn⟩ := he
  cases (show len = 1 from hl)
  intro p e R s m args below meth c Z H locs cells slots LS A
  have hs : amStL (fun v r => K (amSt2 ls k.val v) r h) sk := hs
  revert hs A
  rcases sk with _ | ⟨v, r⟩
  · exact fun _ q => q.elim
  · rcases v with x | r | x | x | a <;> first | exact fun _ q => q.elim | (intro A hs; exact lv_lstore_n A.hx A.hb hd rfl (amLs_has A.hl) hn rfl (fun LS' hl' => hK _ _ _ hs _ _ _ _ _ _ _ _ _ _ _ _ _ _ _ (A.toL (amLs_st2 A.hl (am_hd A.ok) hn hl') (am_tl A.ok))))
theorem X_dstore {k : Nat} (he : amOkE M (pc, .dstore k, len, aux, S)) (hs : amStep G M Q (pc, .dstore k, len, aux, S) K J ls sk h) (hK : amHK G M Q pc len K) : X G M Q pc ls sk h := by
  obtain ⟨hd, hl, hn⟩ := he
  cases (show len = 2 from hl)
  intro p e R s m args below meth c Z H locs cells slots LS A
  have hs : amStD (fun v r => K (amSt2 ls k v) r h) sk := hs
  revert hs A
  rcases sk with _ | ⟨v, r⟩
  · exact fun _ q => q.elim
  · rcases v with x | r | x | x | a <;> first | exact fun _ q => q.elim | (intro A hs; exact lv_dstore A.hx A.hb hd (amLs_has A.hl) hn rfl (fun LS' hl' => hK _ _ _ hs _ _ _ _ _ _ _ _ _ _ _ _ _ _ _ (A.toL (amLs_st2 A.hl (am_hd A.ok) hn hl') (am_tl A.ok))))
theorem X_dstore_n {k : Fin 4} (he : amOkE M (pc, .dstore_n k, len, aux, S)) (hs : amStep G M Q (pc, .dstore_n k, len, aux, S) K J ls sk h) (hK : amHK G M Q pc len K) : X G M Q pc ls sk h := by
  obtain ⟨hd, hl, hn⟩ := he
  cases (show len = 1 from hl)
  intro p e R s m args below meth c Z H locs cells slots LS A
  have hs : amStD (fun v r => K (amSt2 ls k.val v) r h) sk := hs
  revert hs A
  rcases sk with _ | ⟨v, r⟩
  · exact fun _ q => q.elim
  · rcases v with x | r | x | x | a <;> first | exact fun _ q => q.elim | (intro A hs; exact lv_dstore_n A.hx A.hb hd rfl (amLs_has A.hl) hn rfl (fun LS' hl' => hK _ _ _ hs _ _ _ _ _ _ _ _ _ _ _ _ _ _ _ (A.toL (amLs_st2 A.hl (am_hd A.ok) hn hl') (am_tl A.ok))))
theorem X_iadd (he : amOkE M (pc, .iadd, len, aux, S)) (hs : amStep G M Q (pc, .iadd, len, aux, S) K J ls sk h) (hK : amHK G M Q pc len K) : X G M Q pc ls sk h := by
  obtain ⟨hd, hl⟩ := he
  cases (show len = 1 from hl)
  intro p e R s m args below meth c Z H locs cells slots LS A
  have hs : am2I (fun x y r => amIn (x + y) ∧ K ls (aI (x + y) :: r) h) sk := hs
  revert hs A
  rcases sk with _ | ⟨y | _ | _ | _ | _, _ | ⟨x | _ | _ | _ | _, r⟩⟩ <;> first | exact fun _ q => q.elim | skip
  intro A hs
  have ox : amIn x := am_hd (am_tl A.ok)
  have oy : amIn y := am_hd A.ok
  refine lv_iadd A.hx A.hb hd ?_
  rw [← Int32.ofInt_add]
  exact hK _ _ _ hs.2 _ _ _ _ _ _ _ _ _ _ _ _ _ _ _ (A.to (am_all1 (v := aI (x + y)) hs.1 (am_tl (am_tl A.ok))))
theorem X_isub (he : amOkE M (pc, .isub, len, aux, S)) (hs : amStep G M Q (pc, .isub, len, aux, S) K J ls sk h) (hK : amHK G M Q pc len K) : X G M Q pc ls sk h := by
  obtain ⟨hd, hl⟩ := he
  cases (show len = 1 from hl)
  intro p e R s m args below meth c Z H locs cells slots LS A
  have hs : am2I (fun x y r => amIn (x - y) ∧ K ls (aI (x - y) :: r) h) sk := hs
  revert hs A
  rcases sk with _ | ⟨y | _ | _ | _ | _, _ | ⟨x | _ | _ | _ | _, r⟩⟩ <;> first | exact fun _ q => q.elim | skip
  intro A hs
  have ox : amIn x := am_hd (am_tl A.ok)
  have oy : amIn y := am_hd A.ok
  refine lv_isub A.hx A.hb hd ?_
  rw [← Int32.ofInt_sub]
  exact hK _ _ _ hs.2 _ _ _ _ _ _ _ _ _ _ _ _ _ _ _ (A.to (am_all1 (v := aI (x - y)) hs.1 (am_tl (am_tl A.ok))))
theorem X_imul0 {b c2 : Nat} (he : amOkE M (pc, .imul, len, (0, b, c2), S)) (hs : amStep G M Q (pc, .imul, len, (0, b, c2), S) K J ls sk h) (hK : amHK G M Q pc len K) : X G M Q pc ls sk h := by
  obtain ⟨hd, hl⟩ := he
  cases (show len = 1 from hl)
  intro p e R s m args below meth c Z H locs cells slots LS A
  have hs : am2I (fun x y r => amIn (x * y) ∧ K ls (aI (x * y) :: r) h) sk := hs
  revert hs A
  rcases sk with _ | ⟨y | _ | _ | _ | _, _ | ⟨x | _ | _ | _ | _, r⟩⟩ <;> first | exact fun _ q => q.elim | skip
  intro A hs
  have ox : amIn x := am_hd (am_tl A.ok)
  have oy : amIn y := am_hd A.ok
  refine lv_imul A.hx A.hb hd ?_
  rw [← Int32.ofInt_mul]
  exact hK _ _ _ hs.2 _ _ _ _ _ _ _ _ _ _ _ _ _ _ _ (A.to (am_all1 (v := aI (x * y)) hs.1 (am_tl (am_tl A.ok))))
theorem X_imul1 {a b c2 : Nat} (he : amOkE M (pc, .imul, len, (a + 1, b, c2), S)) (hs : amStep G M Q (pc, .imul, len, (a + 1, b, c2), S) K J ls sk h) (hK : amHK G M Q pc len K) : X G M Q pc ls sk h := by
  obtain ⟨hd, hl⟩ := he
  cases (show len = 1 from hl)
  intro p e R s m args below meth c Z H locs cells slots LS A
  have hs : am2I (fun x y r => K ls (aI (Int32.ofInt x * Int32.ofInt y).toInt :: r) h) sk := hs
  revert hs A
  rcases sk with _ | ⟨y | _ | _ | _ | _, _ | ⟨x | _ | _ | _ | _, r⟩⟩ <;> first | exact fun _ q => q.elim | skip
  intro A hs
  have ox : amIn x := am_hd (am_tl A.ok)
  have oy : amIn y := am_hd A.ok
  refine lv_imul A.hx A.hb hd ?_
  rw [← amI_of (Int32.ofInt x * Int32.ofInt y)]
  exact hK _ _ _ hs _ _ _ _ _ _ _ _ _ _ _ _ _ _ _ (A.to (am_all1 (v := aI (Int32.ofInt x * Int32.ofInt y).toInt) (amI_in _) (am_tl (am_tl A.ok))))
theorem X_imul (he : amOkE M (pc, .imul, len, aux, S)) (hs : amStep G M Q (pc, .imul, len, aux, S) K J ls sk h) (hK : amHK G M Q pc len K) : X G M Q pc ls sk h := by
  obtain ⟨a, b, c2⟩ := aux
  cases a with
  | zero => exact X_imul0 he hs hK
  | succ a => exact X_imul1 he hs hK
theorem X_idiv (he : amOkE M (pc, .idiv, len, aux, S)) (hs : amStep G M Q (pc, .idiv, len, aux, S) K J ls sk h) (hK : amHK G M Q pc len K) : X G M Q pc ls sk h := by
  obtain ⟨hd, hl⟩ := he
  cases (show len = 1 from hl)
  intro p e R s m args below meth c Z H locs cells slots LS A
  have hs : am2I (fun x y r => (y ≠ 0 ∧ amIn (Int.tdiv x y)) ∧ K ls (aI (Int.tdiv x y) :: r) h) sk := hs
  revert hs A
  rcases sk with _ | ⟨y | _ | _ | _ | _, _ | ⟨x | _ | _ | _ | _, r⟩⟩ <;> first | exact fun _ q => q.elim | skip
  intro A hs
  have ox : amIn x := am_hd (am_tl A.ok)
  have oy : amIn y := am_hd A.ok
  have hne : ¬ Int32.ofInt y = 0 := fun q => hs.1.1 ((amI_eq oy amIn_0).mp (q.trans amI_0.symm))
  refine lv_idiv A.hx A.hb hd hne ?_
  rw [amI_div ox oy hs.1.2]
  exact hK _ _ _ hs.2 _ _ _ _ _ _ _ _ _ _ _ _ _ _ _ (A.to (am_all1 (v := aI (Int.tdiv x y)) hs.1.2 (am_tl (am_tl A.ok))))
theorem X_irem (he : amOkE M (pc, .irem, len, aux, S)) (hs : amStep G M Q (pc, .irem, len, aux, S) K J ls sk h) (hK : amHK G M Q pc len K) : X G M Q pc ls sk h := by
  obtain ⟨hd, hl⟩ := he
  cases (show len = 1 from hl)
  intro p e R s m args below meth c Z H locs cells slots LS A
  have hs : am2I (fun x y r => (y ≠ 0 ∧ amIn (Int.tdiv x y)) ∧ K ls (aI (Int.tmod x y) :: r) h) sk := hs
  revert hs A
  rcases sk with _ | ⟨y | _ | _ | _ | _, _ | ⟨x | _ | _ | _ | _, r⟩⟩ <;> first | exact fun _ q => q.elim | skip
  intro A hs
  have ox : amIn x := am_hd (am_tl A.ok)
  have oy : amIn y := am_hd A.ok
  have hne : ¬ Int32.ofInt y = 0 := fun q => hs.1.1 ((amI_eq oy amIn_0).mp (q.trans amI_0.symm))
  refine lv_irem A.hx A.hb hd hne ?_
  rw [amI_rem ox oy hs.1.2]
  exact hK _ _ _ hs.2 _ _ _ _ _ _ _ _ _ _ _ _ _ _ _ (A.to (am_all1 (v := aI (Int.tmod x y)) (amIn_rem ox) (am_tl (am_tl A.ok))))
theorem X_iand (he : amOkE M (pc, .iand, len, aux, S)) (hs : amStep G M Q (pc, .iand, len, aux, S) K J ls sk h) (hK : amHK G M Q pc len K) : X G M Q pc ls sk h := by
  obtain ⟨hd, hl⟩ := he
  cases (show len = 1 from hl)
  intro p e R s m args below meth c Z H locs cells slots LS A
  have hs : am2I (fun x y r =>  K ls (aI ((Int32.ofInt x &&& Int32.ofInt y).toInt) :: r) h) sk := hs
  revert hs A
  rcases sk with _ | ⟨y | _ | _ | _ | _, _ | ⟨x | _ | _ | _ | _, r⟩⟩ <;> first | exact fun _ q => q.elim | skip
  intro A hs
  have ox : amIn x := am_hd (am_tl A.ok)
  have oy : amIn y := am_hd A.ok
  refine lv_iand A.hx A.hb hd ?_
  rw [← amI_of (Int32.ofInt x &&& Int32.ofInt y)]
  exact hK _ _ _ hs _ _ _ _ _ _ _ _ _ _ _ _ _ _ _ (A.to (am_all1 (v := aI (Int32.ofInt x &&& Int32.ofInt y).toInt) (amI_in _) (am_tl (am_tl A.ok))))
theorem X_ior (he : amOkE M (pc, .ior, len, aux, S)) (hs : amStep G M Q (pc, .ior, len, aux, S) K J ls sk h) (hK : amHK G M Q pc len K) : X G M Q pc ls sk h := by
  obtain ⟨hd, hl⟩ := he
  cases (show len = 1 from hl)
  intro p e R s m args below meth c Z H locs cells slots LS A
  have hs : am2I (fun x y r =>  K ls (aI (Int32.ofInt x ||| Int32.ofInt y).toInt :: r) h) sk := hs
  revert hs A
  rcases sk with _ | ⟨y | _ | _ | _ | _, _ | ⟨x | _ | _ | _ | _, r⟩⟩ <;> first | exact fun _ q => q.elim | skip
  intro A hs
  have ox : amIn x := am_hd (am_tl A.ok)
  have oy : amIn y := am_hd A.ok
  refine lv_ior A.hx A.hb hd ?_
  rw [← amI_of (Int32.ofInt x ||| Int32.ofInt y)]
  exact hK _ _ _ hs _ _ _ _ _ _ _ _ _ _ _ _ _ _ _ (A.to (am_all1 (v := aI (Int32.ofInt x ||| Int32.ofInt y).toInt) (amI_in _) (am_tl (am_tl A.ok))))
theorem X_ishl (he : amOkE M (pc, .ishl, len, aux, S)) (hs : amStep G M Q (pc, .ishl, len, aux, S) K J ls sk h) (hK : amHK G M Q pc len K) : X G M Q pc ls sk h := by
  obtain ⟨hd, hl⟩ := he
  cases (show len = 1 from hl)
  intro p e R s m args below meth c Z H locs cells slots LS A
  have hs : am2I (fun x y r =>  K ls (aI (Int32.ofInt x <<< (Int32.ofInt y &&& 31)).toInt :: r) h) sk := hs
  revert hs A
  rcases sk with _ | ⟨y | _ | _ | _ | _, _ | ⟨x | _ | _ | _ | _, r⟩⟩ <;> first | exact fun _ q => q.elim | skip
  intro A hs
  have ox : amIn x := am_hd (am_tl A.ok)
  have oy : amIn y := am_hd A.ok
  refine lv_ishl A.hx A.hb hd ?_
  rw [← amI_of (Int32.ofInt x <<< (Int32.ofInt y &&& 31))]
  exact hK _ _ _ hs _ _ _ _ _ _ _ _ _ _ _ _ _ _ _ (A.to (am_all1 (v := aI (Int32.ofInt x <<< (Int32.ofInt y &&& 31)).toInt) (amI_in _) (am_tl (am_tl A.ok))))
theorem X_ishr (he : amOkE M (pc, .ishr, len, aux, S)) (hs : amStep G M Q (pc, .ishr, len, aux, S) K J ls sk h) (hK : amHK G M Q pc len K) : X G M Q pc ls sk h := by
  obtain ⟨hd, hl⟩ := he
  cases (show len = 1 from hl)
  intro p e R s m args below meth c Z H locs cells slots LS A
  have hs : am2I (fun x y r =>  K ls (aI (Int32.ofInt x >>> (Int32.ofInt y &&& 31)).toInt :: r) h) sk := hs
  revert hs A
  rcases sk with _ | ⟨y | _ | _ | _ | _, _ | ⟨x | _ | _ | _ | _, r⟩⟩ <;> first | exact fun _ q => q.elim | skip
  intro A hs
  have ox : amIn x := am_hd (am_tl A.ok)
  have oy : amIn y := am_hd A.ok
  refine lv_ishr A.hx A.hb hd ?_
  rw [← amI_of (Int32.ofInt x >>> (Int32.ofInt y &&& 31))]
  exact hK _ _ _ hs _ _ _ _ _ _ _ _ _ _ _ _ _ _ _ (A.to (am_all1 (v := aI (Int32.ofInt x >>> (Int32.ofInt y &&& 31)).toInt) (amI_in _) (am_tl (am_tl A.ok))))
theorem X_iushr (he : amOkE M (pc, .iushr, len, aux, S)) (hs : amStep G M Q (pc, .iushr, len, aux, S) K J ls sk h) (hK : amHK G M Q pc len K) : X G M Q pc ls sk h := by
  obtain ⟨hd, hl⟩ := he
  cases (show len = 1 from hl)
  intro p e R s m args below meth c Z H locs cells slots LS A
  have hs : am2I (fun x y r =>  K ls (aI ((Int32.ofInt x).toUInt32 >>> ((Int32.ofInt y).toUInt32 &&& Int32.toUInt32 31)).toInt32.toInt :: r) h) sk := hs
  revert hs A
  rcases sk with _ | ⟨y | _ | _ | _ | _, _ | ⟨x | _ | _ | _ | _, r⟩⟩ <;> first | exact fun _ q => q.elim | skip
  intro A hs
  have ox : amIn x := am_hd (am_tl A.ok)
  have oy : amIn y := am_hd A.ok
  refine lv_iushr A.hx A.hb hd rfl ?_
  rw [← amI_of (((Int32.ofInt x).toUInt32 >>> ((Int32.ofInt y).toUInt32 &&& Int32.toUInt32 31)).toInt32)]
  exact hK _ _ _ hs _ _ _ _ _ _ _ _ _ _ _ _ _ _ _ (A.to (am_all1 (v := aI ((Int32.ofInt x).toUInt32 >>> ((Int32.ofInt y).toUInt32 &&& Int32.toUInt32 31)).toInt32.toInt) (amI_in _) (am_tl (am_tl A.ok))))
theorem X_dup_x2 (he : amOkE M (pc, .dup_x2, len, aux, S)) (hs : amStep G M Q (pc, .dup_x2, len, aux, S) K J ls sk h) (hK : amHK G M Q pc len K) : X G M Q pc ls sk h := by
  obtain ⟨hd, hl⟩ := he
  cases (show len = 1 from hl)
  intro p e R s m args below meth c Z H locs cells slots LS A
  revert hs A
  rcases sk with _ | ⟨v, _ | ⟨w, _ | ⟨u, r⟩⟩⟩
  · exact fun q => q.elim
  · exact fun q => q.elim
  · exact fun q => q.elim
  · intro hs A
    have hs : (amCat v = 1 ∧ amCat w = 1 ∧ amCat u = 1) ∧ K (ls) (v :: w :: u :: v :: r) h := hs
    have o1 := am_hd A.ok
    have t1 := am_tl A.ok
    have o2 := am_hd t1
    have t2 := am_tl t1
    exact lv_dup_x2 A.hx A.hb hd ((amCat_r _ _).trans hs.1.1) ((amCat_r _ _).trans hs.1.2.1) ((amCat_r _ _).trans hs.1.2.2) (hK _ _ _ hs.2 _ _ _ _ _ _ _ _ _ _ _ _ _ _ _ (A.to (am_all1 o1 (am_all1 o2 (am_all1 (am_hd t2) (am_all1 o1 (am_tl t2)))))))
theorem X_ineg (he : amOkE M (pc, .ineg, len, aux, S)) (hs : amStep G M Q (pc, .ineg, len, aux, S) K J ls sk h) (hK : amHK G M Q pc len K) : X G M Q pc ls sk h := by
  obtain ⟨hd, hl⟩ := he
  cases (show len = 1 from hl)
  intro p e R s m args below meth c Z H locs cells slots LS A
  have hs : am1I (fun x r => amIn (-x) ∧ K ls (aI (-x) :: r) h) sk := hs
  revert hs A
  rcases sk with _ | ⟨x | _ | _ | _ | _, r⟩ <;> first | exact fun _ q => q.elim | skip
  intro A hs
  have ox : amIn x := am_hd A.ok
  refine lv_ineg A.hx A.hb hd ?_
  rw [← Int32.ofInt_neg]
  exact hK _ _ _ hs.2 _ _ _ _ _ _ _ _ _ _ _ _ _ _ _ (A.to (am_all1 (v := aI (-x)) hs.1 (am_tl A.ok)))
theorem X_i2l (he : amOkE M (pc, .i2l, len, aux, S)) (hs : amStep G M Q (pc, .i2l, len, aux, S) K J ls sk h) (hK : amHK G M Q pc len K) : X G M Q pc ls sk h := by
  obtain ⟨hd, hl⟩ := he
  cases (show len = 1 from hl)
  intro p e R s m args below meth c Z H locs cells slots LS A
  have hs : am1I (fun x r =>  K ls (aL (Int64.ofInt x) :: r) h) sk := hs
  revert hs A
  rcases sk with _ | ⟨x | _ | _ | _ | _, r⟩ <;> first | exact fun _ q => q.elim | skip
  intro A hs
  have ox : amIn x := am_hd A.ok
  refine lv_i2l A.hx A.hb hd (amI_l ox) ?_
  exact hK _ _ _ hs _ _ _ _ _ _ _ _ _ _ _ _ _ _ _ (A.to (am_all1 (v := aL (Int64.ofInt x)) trivial (am_tl A.ok)))
theorem X_i2d (he : amOkE M (pc, .i2d, len, aux, S)) (hs : amStep G M Q (pc, .i2d, len, aux, S) K J ls sk h) (hK : amHK G M Q pc len K) : X G M Q pc ls sk h := by
  obtain ⟨hd, hl⟩ := he
  cases (show len = 1 from hl)
  intro p e R s m args below meth c Z H locs cells slots LS A
  have hs : am1I (fun x r =>  K ls (aD (FP.i2d (Int32.ofInt x)) :: r) h) sk := hs
  revert hs A
  rcases sk with _ | ⟨x | _ | _ | _ | _, r⟩ <;> first | exact fun _ q => q.elim | skip
  intro A hs
  have ox : amIn x := am_hd A.ok
  refine lv_i2d A.hx A.hb hd ?_
  exact hK _ _ _ hs _ _ _ _ _ _ _ _ _ _ _ _ _ _ _ (A.to (am_all1 (v := aD (FP.i2d (Int32.ofInt x))) trivial (am_tl A.ok)))
theorem X_ladd (he : amOkE M (pc, .ladd, len, aux, S)) (hs : amStep G M Q (pc, .ladd, len, aux, S) K J ls sk h) (hK : amHK G M Q pc len K) : X G M Q pc ls sk h := by
  obtain ⟨hd, hl⟩ := he
  cases (show len = 1 from hl)
  intro p e R s m args below meth c Z H locs cells slots LS A
  have hs : am2L (fun x y r => K ls (aL (x + y) :: r) h) sk := hs
  revert hs A
  rcases sk with _ | ⟨_ | _ | y | _ | _, _ | ⟨_ | _ | x | _ | _, r⟩⟩ <;> first | exact fun _ q => q.elim | skip
  intro A hs
  exact lv_ladd A.hx A.hb hd (hK _ _ _ hs _ _ _ _ _ _ _ _ _ _ _ _ _ _ _ (A.to (am_all1 (v := aL (x + y)) trivial (am_tl (am_tl A.ok)))))
theorem X_lsub (he : amOkE M (pc, .lsub, len, aux, S)) (hs : amStep G M Q (pc, .lsub, len, aux, S) K J ls sk h) (hK : amHK G M Q pc len K) : X G M Q pc ls sk h := by
  obtain ⟨hd, hl⟩ := he
  cases (show len = 1 from hl)
  intro p e R s m args below meth c Z H locs cells slots LS A
  have hs : am2L (fun x y r => K ls (aL (x - y) :: r) h) sk := hs
  revert hs A
  rcases sk with _ | ⟨_ | _ | y | _ | _, _ | ⟨_ | _ | x | _ | _, r⟩⟩ <;> first | exact fun _ q => q.elim | skip
  intro A hs
  exact lv_lsub A.hx A.hb hd (hK _ _ _ hs _ _ _ _ _ _ _ _ _ _ _ _ _ _ _ (A.to (am_all1 (v := aL (x - y)) trivial (am_tl (am_tl A.ok)))))
theorem X_lmul (he : amOkE M (pc, .lmul, len, aux, S)) (hs : amStep G M Q (pc, .lmul, len, aux, S) K J ls sk h) (hK : amHK G M Q pc len K) : X G M Q pc ls sk h := by
  obtain ⟨hd, hl⟩ := he
  cases (show len = 1 from hl)
  intro p e R s m args below meth c Z H locs cells slots LS A
  have hs : am2L (fun x y r => K ls (aL (x * y) :: r) h) sk := hs
  revert hs A
  rcases sk with _ | ⟨_ | _ | y | _ | _, _ | ⟨_ | _ | x | _ | _, r⟩⟩ <;> first | exact fun _ q => q.elim | skip
  intro A hs
  exact lv_lmul A.hx A.hb hd (hK _ _ _ hs _ _ _ _ _ _ _ _ _ _ _ _ _ _ _ (A.to (am_all1 (v := aL (x * y)) trivial (am_tl (am_tl A.ok)))))
theorem X_lor (he : amOkE M (pc, .lor, len, aux, S)) (hs : amStep G M Q (pc, .lor, len, aux, S) K J ls sk h) (hK : amHK G M Q pc len K) : X G M Q pc ls sk h := by
  obtain ⟨hd, hl⟩ := he
  cases (show len = 1 from hl)
  intro p e R s m args below meth c Z H locs cells slots LS A
  have hs : am2L (fun x y r => K ls (aL (x ||| y) :: r) h) sk := hs
  revert hs A
  rcases sk with _ | ⟨_ | _ | y | _ | _, _ | ⟨_ | _ | x | _ | _, r⟩⟩ <;> first | exact fun _ q => q.elim | skip
  intro A hs
  exact lv_lor A.hx A.hb hd (hK _ _ _ hs _ _ _ _ _ _ _ _ _ _ _ _ _ _ _ (A.to (am_all1 (v := aL (x ||| y)) trivial (am_tl (am_tl A.ok)))))
theorem X_lcmp (he : amOkE M (pc, .lcmp, len, aux, S)) (hs : amStep G M Q (pc, .lcmp, len, aux, S) K J ls sk h) (hK : amHK G M Q pc len K) : X G M Q pc ls sk h := by
  obtain ⟨hd, hl⟩ := he
  cases (show len = 1 from hl)
  intro p e R s m args below meth c Z H locs cells slots LS A
  have hs : am2L (fun x y r => K ls (aI (lg_cmp x y).toInt :: r) h) sk := hs
  revert hs A
  rcases sk with _ | ⟨_ | _ | y | _ | _, _ | ⟨_ | _ | x | _ | _, r⟩⟩ <;> first | exact fun _ q => q.elim | skip
  intro A hs
  refine W.lcmp A.hx A.hb hd ?_
  rw [← amI_of (lg_cmp x y)]
  exact hK _ _ _ hs _ _ _ _ _ _ _ _ _ _ _ _ _ _ _ (A.to (am_all1 (v := aI (lg_cmp x y).toInt) (amI_in _) (am_tl (am_tl A.ok))))
theorem X_lshl (he : amOkE M (pc, .lshl, len, aux, S)) (hs : amStep G M Q (pc, .lshl, len, aux, S) K J ls sk h) (hK : amHK G M Q pc len K) : X G M Q pc ls sk h := by
  obtain ⟨hd, hl⟩ := he
  cases (show len = 1 from hl)
  intro p e R s m args below meth c Z H locs cells slots LS A
  revert hs A
  rcases sk with _ | ⟨y | _ | _ | _ | _, _ | ⟨_ | _ | x | _ | _, r⟩⟩ <;> first | exact fun q => q.elim | skip
  intro hs A
  have hs : K ls (aL (x <<< ((Int32.ofInt y).toInt64 &&& 63)) :: r) h := hs
  exact lv_lshl A.hx A.hb hd rfl (hK _ _ _ hs _ _ _ _ _ _ _ _ _ _ _ _ _ _ _ (A.to (am_all1 (v := aL (x <<< ((Int32.ofInt y).toInt64 &&& 63))) trivial (am_tl (am_tl A.ok)))))
theorem X_dmul (he : amOkE M (pc, .dmul, len, aux, S)) (hs : amStep G M Q (pc, .dmul, len, aux, S) K J ls sk h) (hK : amHK G M Q pc len K) : X G M Q pc ls sk h := by
  obtain ⟨hd, hl⟩ := he
  cases (show len = 1 from hl)
  intro p e R s m args below meth c Z H locs cells slots LS A
  have hs : am2D (fun x y r => vf_n64 (FP.dmul x y) ∧ K ls (aD (FP.dmul x y) :: r) h) sk := hs
  revert hs A
  rcases sk with _ | ⟨_ | _ | _ | y | _, _ | ⟨_ | _ | _ | x | _, r⟩⟩ <;> first | exact fun _ q => q.elim | skip
  intro A hs
  exact lv_dmul A.hx A.hb hd hs.1 (hK _ _ _ hs.2 _ _ _ _ _ _ _ _ _ _ _ _ _ _ _ (A.to (am_all1 (v := aD (FP.dmul x y)) trivial (am_tl (am_tl A.ok)))))
theorem X_ddiv (he : amOkE M (pc, .ddiv, len, aux, S)) (hs : amStep G M Q (pc, .ddiv, len, aux, S) K J ls sk h) (hK : amHK G M Q pc len K) : X G M Q pc ls sk h := by
  obtain ⟨hd, hl⟩ := he
  cases (show len = 1 from hl)
  intro p e R s m args below meth c Z H locs cells slots LS A
  have hs : am2D (fun x y r => vf_n64 (FP.ddiv x y) ∧ K ls (aD (FP.ddiv x y) :: r) h) sk := hs
  revert hs A
  rcases sk with _ | ⟨_ | _ | _ | y | _, _ | ⟨_ | _ | _ | x | _, r⟩⟩ <;> first | exact fun _ q => q.elim | skip
  intro A hs
  exact lv_ddiv A.hx A.hb hd hs.1 (hK _ _ _ hs.2 _ _ _ _ _ _ _ _ _ _ _ _ _ _ _ (A.to (am_all1 (v := aD (FP.ddiv x y)) trivial (am_tl (am_tl A.ok)))))
theorem X_dsub (he : amOkE M (pc, .dsub, len, aux, S)) (hs : amStep G M Q (pc, .dsub, len, aux, S) K J ls sk h) (hK : amHK G M Q pc len K) : X G M Q pc ls sk h := by
  obtain ⟨hd, hl⟩ := he
  cases (show len = 1 from hl)
  intro p e R s m args below meth c Z H locs cells slots LS A
  have hs : am2D (fun x y r => vf_n64 (FP.dsub x y) ∧ K ls (aD (FP.dsub x y) :: r) h) sk := hs
  revert hs A
  rcases sk with _ | ⟨_ | _ | _ | y | _, _ | ⟨_ | _ | _ | x | _, r⟩⟩ <;> first | exact fun _ q => q.elim | skip
  intro A hs
  exact lv_dsub A.hx A.hb hd hs.1 (hK _ _ _ hs.2 _ _ _ _ _ _ _ _ _ _ _ _ _ _ _ (A.to (am_all1 (v := aD (FP.dsub x y)) trivial (am_tl (am_tl A.ok)))))
theorem X_dcmp {op : CmpOp} (he : amOkE M (pc, .dcmp op, len, aux, S)) (hs : amStep G M Q (pc, .dcmp op, len, aux, S) K J ls sk h) (hK : amHK G M Q pc len K) : X G M Q pc ls sk h := by
  obtain ⟨hd, hl⟩ := he
  cases (show len = 1 from hl)
  intro p e R s m args below meth c Z H locs cells slots LS A
  have hs : am2D (fun x y r => K ls (aI (Op.cmpValue (FP.dcmp x y) op).toInt :: r) h) sk := hs
  revert hs A
  rcases sk with _ | ⟨_ | _ | _ | y | _, _ | ⟨_ | _ | _ | x | _, r⟩⟩ <;> first | exact fun _ q => q.elim | skip
  intro A hs
  refine lv_dcmp A.hx A.hb hd ?_
  rw [← amI_of (Op.cmpValue (FP.dcmp x y) op)]
  exact hK _ _ _ hs _ _ _ _ _ _ _ _ _ _ _ _ _ _ _ (A.to (am_all1 (v := aI (Op.cmpValue (FP.dcmp x y) op).toInt) (amI_in _) (am_tl (am_tl A.ok))))
theorem X_d2l (he : amOkE M (pc, .d2l, len, aux, S)) (hs : amStep G M Q (pc, .d2l, len, aux, S) K J ls sk h) (hK : amHK G M Q pc len K) : X G M Q pc ls sk h := by
  obtain ⟨hd, hl⟩ := he
  cases (show len = 1 from hl)
  intro p e R s m args below meth c Z H locs cells slots LS A
  revert hs A
  rcases sk with _ | ⟨_ | _ | _ | x | _, r⟩ <;> first | exact fun q => q.elim | skip
  intro hs A
  have hs : K ls (aL (FP.d2l x) :: r) h := hs
  exact lv_d2l A.hx A.hb hd (hK _ _ _ hs _ _ _ _ _ _ _ _ _ _ _ _ _ _ _ (A.to (am_all1 (v := aL (FP.d2l x)) trivial (am_tl A.ok))))
theorem X_dup (he : amOkE M (pc, .dup, len, aux, S)) (hs : amStep G M Q (pc, .dup, len, aux, S) K J ls sk h) (hK : amHK G M Q pc len K) : X G M Q pc ls sk h := by
  obtain ⟨hd, hl⟩ := he
  cases (show len = 1 from hl)
  intro p e R s m args below meth c Z H locs cells slots LS A
  revert hs A
  rcases sk with _ | ⟨v, r⟩
  · exact fun q => q.elim
  · intro hs A
    have hs : amCat v = 1 ∧ K ls (v :: v :: r) h := hs
    exact lv_dup A.hx A.hb hd ((amCat_r _ _).trans hs.1) (hK _ _ _ hs.2 _ _ _ _ _ _ _ _ _ _ _ _ _ _ _ (A.to (am_all1 (am_hd A.ok) A.ok)))
theorem X_dup2 (he : amOkE M (pc, .dup2, len, aux, S)) (hs : amStep G M Q (pc, .dup2, len, aux, S) K J ls sk h) (hK : amHK G M Q pc len K) : X G M Q pc ls sk h := by
  obtain ⟨hd, hl⟩ := he
  cases (show len = 1 from hl)
  intro p e R s m args below meth c Z H locs cells slots LS A
  revert hs A
  rcases sk with _ | ⟨v, _ | ⟨w, r⟩⟩
  · exact fun q => q.elim
  · exact fun q => q.elim
  · intro hs A
    have hs : (amCat v = 1 ∧ amCat w = 1) ∧ K ls (v :: w :: v :: w :: r) h := hs
    exact lv_dup2_11 A.hx A.hb hd ((amCat_r _ _).trans hs.1.1) ((amCat_r _ _).trans hs.1.2) (hK _ _ _ hs.2 _ _ _ _ _ _ _ _ _ _ _ _ _ _ _ (A.to (am_all1 (am_hd A.ok) (am_all1 (am_hd (am_tl A.ok)) A.ok))))
theorem X_pop (he : amOkE M (pc, .pop, len, aux, S)) (hs : amStep G M Q (pc, .pop, len, aux, S) K J ls sk h) (hK : amHK G M Q pc len K) : X G M Q pc ls sk h := by
  obtain ⟨hd, hl⟩ := he
  cases (show len = 1 from hl)
  intro p e R s m args below meth c Z H locs cells slots LS A
  revert hs A
  rcases sk with _ | ⟨v, r⟩
  · exact fun q => q.elim
  · intro hs A
    have hs : amCat v = 1 ∧ K ls r h := hs
    exact lv_pop A.hx A.hb hd ((amCat_r _ _).trans hs.1) (hK _ _ _ hs.2 _ _ _ _ _ _ _ _ _ _ _ _ _ _ _ (A.to (am_tl A.ok)))
theorem X_iinc {k : Nat} {n : Int} (he : amOkE M (pc, .iinc k n, len, aux, S)) (hs : amStep G M Q (pc, .iinc k n, len, aux, S) K J ls sk h) (hK : amHK G M Q pc len K) : X G M Q pc ls sk h := by
  obtain ⟨hd, hl, hn⟩ := he
  cases (show len = 3 from hl)
  intro p e R s m args below meth c Z H locs cells slots LS A
  have hs : amLdI (fun v => match v with
      | Sum.inl x => amIn (x + n) ∧ K (amSt1 ls k (aI (x + n))) sk h
      | _ => False) (amGet ls k) := hs
  revert hs
  cases hg : amGet ls k with
  | none => exact fun q => q.elim
  | some v =>
    rcases v with x | r | x | x | a <;> first | exact fun q => q.elim | skip
    intro hs
    have hs : amIn (x + n) ∧ K (amSt1 ls k (aI (x + n))) sk h := hs
    obtain ⟨j, hj⟩ := List.getElem?_of_mem (amKn_mem.mpr ⟨_, hg, rfl⟩ : (k, amRv (gB G) (aI x)) ∈ amKn (gB G) ls)
    exact lv_iinc A.hx A.hb hd (amLs_has A.hl) hj (v := Int32.ofInt (x + n)) (Int32.ofInt_add x n).symm hn rfl (fun LS' hl' => hK _ _ _ hs.2 _ _ _ _ _ _ _ _ _ _ _ _ _ _ _ (A.toL (amLs_st1 (v := aI (x + n)) A.hl hs.1 hn hl') A.ok))
theorem X_iconst {n : Int} (he : amOkE M (pc, .iconst n, len, aux, S)) (hs : amStep G M Q (pc, .iconst n, len, aux, S) K J ls sk h) (hK : amHK G M Q pc len K) : X G M Q pc ls sk h := by
  obtain ⟨hd, hl, hn⟩ := he
  cases (show len = 1 from hl)
  intro p e R s m args below meth c Z H locs cells slots LS A
  exact lv_iconst A.hx A.hb hd rfl (hK _ _ _ hs _ _ _ _ _ _ _ _ _ _ _ _ _ _ _ (A.to (am_all1 (v := aI n) (show amIn n from ⟨by have := hn.1; omega, by have := hn.2; omega⟩) A.ok)))
theorem X_bipush {n : Int} (he : amOkE M (pc, .bipush n, len, aux, S)) (hs : amStep G M Q (pc, .bipush n, len, aux, S) K J ls sk h) (hK : amHK G M Q pc len K) : X G M Q pc ls sk h := by
  obtain ⟨hd, hl, hn, h8⟩ := he
  cases (show len = 2 from hl)
  intro p e R s m args below meth c Z H locs cells slots LS A
  exact lv_bipush A.hx A.hb hd h8 (hK _ _ _ hs _ _ _ _ _ _ _ _ _ _ _ _ _ _ _ (A.to (am_all1 (v := aI n) (show amIn n from ⟨by have := hn.1; omega, by have := hn.2; omega⟩) A.ok)))
theorem X_sipush {n : Int} (he : amOkE M (pc, .sipush n, len, aux, S)) (hs : amStep G M Q (pc, .sipush n, len, aux, S) K J ls sk h) (hK : amHK G M Q pc len K) : X G M Q pc ls sk h := by
  obtain ⟨hd, hl, hn, h8⟩ := he
  cases (show len = 3 from hl)
  intro p e R s m args below meth c Z H locs cells slots LS A
  exact lv_sipush A.hx A.hb hd h8 (hK _ _ _ hs _ _ _ _ _ _ _ _ _ _ _ _ _ _ _ (A.to (am_all1 (v := aI n) (show amIn n from ⟨by have := hn.1; omega, by have := hn.2; omega⟩) A.ok)))
theorem X_lconst {n : Fin 2} (he : amOkE M (pc, .lconst n, len, aux, S)) (hs : amStep G M Q (pc, .lconst n, len, aux, S) K J ls sk h) (hK : amHK G M Q pc len K) : X G M Q pc ls sk h := by
  obtain ⟨hd, hl⟩ := he
  cases (show len = 1 from hl)
  intro p e R s m args below meth c Z H locs cells slots LS A
  exact lv_lconst A.hx A.hb hd rfl (hK _ _ _ hs _ _ _ _ _ _ _ _ _ _ _ _ _ _ _ (A.to (am_all1 (v := aL (Int64.ofNat n.val)) trivial A.ok)))
theorem X_dconst {n : Fin 2} (he : amOkE M (pc, .dconst n, len, aux, S)) (hs : amStep G M Q (pc, .dconst n, len, aux, S) K J ls sk h) (hK : amHK G M Q pc len K) : X G M Q pc ls sk h := by
  obtain ⟨hd, hl⟩ := he
  cases (show len = 1 from hl)
  intro p e R s m args below meth c Z H locs cells slots LS A
  match n, hd, hs with
  | 0, hd, hs => exact lv_dconst0 A.hx A.hb hd (hK _ _ _ hs _ _ _ _ _ _ _ _ _ _ _ _ _ _ _ (A.to (am_all1 (v := aD FP.dconst0) trivial A.ok)))
  | 1, hd, hs => exact lv_dconst1 A.hx A.hb hd (hK _ _ _ hs _ _ _ _ _ _ _ _ _ _ _ _ _ _ _ (A.to (am_all1 (v := aD FP.dconst1) trivial A.ok)))
theorem X_goto {off : Int} (he : amOkE M (pc, .goto off, len, aux, S)) (hs : amStep G M Q (pc, .goto off, len, aux, S) K J ls sk h) (hJ : amHJ G M Q J) : X G M Q pc ls sk h := by
  obtain ⟨hd, hl, ho⟩ := he
  cases (show len = 3 from hl)
  intro p e R s m args below meth c Z H locs cells slots LS A
  exact lv_goto A.hx A.hb hd (Int.toNat_of_nonneg ho).symm (hJ _ _ _ _ hs _ _ _ _ _ _ _ _ _ _ _ _ _ _ _ A)
theorem X_nop (hs : amStep G M Q (pc, .nop, len, aux, S) K J ls sk h) (hJ : amHJ G M Q J) : X G M Q pc ls sk h := hJ _ _ _ _ hs
theorem X_ic_eq {off : Int} (he : amOkE M (pc, .if_icmp .eq off, len, aux, S)) (hs : amStep G M Q (pc, .if_icmp .eq off, len, aux, S) K J ls sk h) (hK : amHK G M Q pc len K) (hJ : amHJ G M Q J) : X G M Q pc ls sk h := by
  obtain ⟨hd, hl, ho⟩ := he
  cases (show len = 3 from hl)
  intro p e R s m args below meth c Z H locs cells slots LS A
  revert hs A
  rcases sk with _ | ⟨y | _ | _ | _ | _, _ | ⟨x | _ | _ | _ | _, r⟩⟩ <;> first | exact fun q => q.elim | skip
  intro hs A
  have hs : (amCmp .eq x y → J (amJ pc off) ls r h) ∧ (¬ amCmp .eq x y → K ls r h) := hs
  have ox : amIn x := am_hd (am_tl A.ok)
  have oy : amIn y := am_hd A.ok
  exact lv_icmp_eq A.hx A.hb hd (Int.toNat_of_nonneg ho).symm (fun q => hJ _ _ _ _ (hs.1 ((amI_eq ox oy).mp q)) _ _ _ _ _ _ _ _ _ _ _ _ _ _ _ (A.to (am_tl (am_tl A.ok)))) (fun q => hK _ _ _ (hs.2 (fun z => q ((amI_eq ox oy).mpr z))) _ _ _ _ _ _ _ _ _ _ _ _ _ _ _ (A.to (am_tl (am_tl A.ok))))
theorem X_if_eq {off : Int} (he : amOkE M (pc, .ifCond .eq off, len, aux, S)) (hs : amStep G M Q (pc, .ifCond .eq off, len, aux, S) K J ls sk h) (hK : amHK G M Q pc len K) (hJ : amHJ G M Q J) : X G M Q pc ls sk h := by
  obtain ⟨hd, hl, ho⟩ := he
  cases (show len = 3 from hl)
  intro p e R s m args below meth c Z H locs cells slots LS A
  revert hs A
  rcases sk with _ | ⟨x | _ | _ | _ | _, r⟩ <;> first | exact fun q => q.elim | skip
  intro hs A
  have hs : (amCmp .eq x 0 → J (amJ pc off) ls r h) ∧ (¬ amCmp .eq x 0 → K ls r h) := hs
  have ox : amIn x := am_hd A.ok
  exact lv_if_eq A.hx A.hb hd (Int.toNat_of_nonneg ho).symm (fun q => hJ _ _ _ _ (hs.1 ((amI_eq ox amIn_0).mp (by rw [amI_0]; exact q))) _ _ _ _ _ _ _ _ _ _ _ _ _ _ _ (A.to (am_tl A.ok))) (fun q => hK _ _ _ (hs.2 (fun z => q (by have z := (amI_eq ox amIn_0).mpr z; rw [amI_0] at z; exact z))) _ _ _ _ _ _ _ _ _ _ _ _ _ _ _ (A.to (am_tl A.ok)))
theorem X_ic_ne {off : Int} (he : amOkE M (pc, .if_icmp .ne off, len, aux, S)) (hs : amStep G M Q (pc, .if_icmp .ne off, len, aux, S) K J ls sk h) (hK : amHK G M Q pc len K) (hJ : amHJ G M Q J) : X G M Q pc ls sk h := by
  obtain ⟨hd, hl, ho⟩ := he
  cases (show len = 3 from hl)
  intro p e R s m args below meth c Z H locs cells slots LS A
  revert hs A
  rcases sk with _ | ⟨y | _ | _ | _ | _, _ | ⟨x | _ | _ | _ | _, r⟩⟩ <;> first | exact fun q => q.elim | skip
  intro hs A
  have hs : (amCmp .ne x y → J (amJ pc off) ls r h) ∧ (¬ amCmp .ne x y → K ls r h) := hs
  have ox : amIn x := am_hd (am_tl A.ok)
  have oy : amIn y := am_hd A.ok
  exact lv_icmp_ne A.hx A.hb hd (Int.toNat_of_nonneg ho).symm (fun q => hJ _ _ _ _ (hs.1 ((not_congr (amI_eq ox oy)).mp q)) _ _ _ _ _ _ _ _ _ _ _ _ _ _ _ (A.to (am_tl (am_tl A.ok)))) (fun q => hK _ _ _ (hs.2 (fun z => z ((amI_eq ox oy).mp q))) _ _ _ _ _ _ _ _ _ _ _ _ _ _ _ (A.to (am_tl (am_tl A.ok))))
theorem X_if_ne {off : Int} (he : amOkE M (pc, .ifCond .ne off, len, aux, S)) (hs : amStep G M Q (pc, .ifCond .ne off, len, aux, S) K J ls sk h) (hK : amHK G M Q pc len K) (hJ : amHJ G M Q J) : X G M Q pc ls sk h := by
  obtain ⟨hd, hl, ho⟩ := he
  cases (show len = 3 from hl)
  intro p e R s m args below meth c Z H locs cells slots LS A
  revert hs A
  rcases sk with _ | ⟨x | _ | _ | _ | _, r⟩ <;> first | exact fun q => q.elim | skip
  intro hs A
  have hs : (amCmp .ne x 0 → J (amJ pc off) ls r h) ∧ (¬ amCmp .ne x 0 → K ls r h) := hs
  have ox : amIn x := am_hd A.ok
  exact lv_if_ne A.hx A.hb hd (Int.toNat_of_nonneg ho).symm (fun q => hJ _ _ _ _ (hs.1 ((not_congr (amI_eq ox amIn_0)).mp (by rw [amI_0]; exact q))) _ _ _ _ _ _ _ _ _ _ _ _ _ _ _ (A.to (am_tl A.ok))) (fun q => hK _ _ _ (hs.2 (fun z => z ((amI_eq ox amIn_0).mp (by rw [amI_0]; exact q)))) _ _ _ _ _ _ _ _ _ _ _ _ _ _ _ (A.to (am_tl A.ok)))
theorem X_ic_lt {off : Int} (he : amOkE M (pc, .if_icmp .lt off, len, aux, S)) (hs : amStep G M Q (pc, .if_icmp .lt off, len, aux, S) K J ls sk h) (hK : amHK G M Q pc len K) (hJ : amHJ G M Q J) : X G M Q pc ls sk h := by
  obtain ⟨hd, hl, ho⟩ := he
  cases (show len = 3 from hl)
  intro p e R s m args below meth c Z H locs cells slots LS A
  revert hs A
  rcases sk with _ | ⟨y | _ | _ | _ | _, _ | ⟨x | _ | _ | _ | _, r⟩⟩ <;> first | exact fun q => q.elim | skip
  intro hs A
  have hs : (amCmp .lt x y → J (amJ pc off) ls r h) ∧ (¬ amCmp .lt x y → K ls r h) := hs
  have ox : amIn x := am_hd (am_tl A.ok)
  have oy : amIn y := am_hd A.ok
  exact lv_icmp_lt A.hx A.hb hd (Int.toNat_of_nonneg ho).symm (fun q => hJ _ _ _ _ (hs.1 ((amI_lt ox oy).mp q)) _ _ _ _ _ _ _ _ _ _ _ _ _ _ _ (A.to (am_tl (am_tl A.ok)))) (fun q => hK _ _ _ (hs.2 (fun z => q ((amI_lt ox oy).mpr z))) _ _ _ _ _ _ _ _ _ _ _ _ _ _ _ (A.to (am_tl (am_tl A.ok))))
theorem X_if_lt {off : Int} (he : amOkE M (pc, .ifCond .lt off, len, aux, S)) (hs : amStep G M Q (pc, .ifCond .lt off, len, aux, S) K J ls sk h) (hK : amHK G M Q pc len K) (hJ : amHJ G M Q J) : X G M Q pc ls sk h := by
  obtain ⟨hd, hl, ho⟩ := he
  cases (show len = 3 from hl)
  intro p e R s m args below meth c Z H locs cells slots LS A
  revert hs A
  rcases sk with _ | ⟨x | _ | _ | _ | _, r⟩ <;> first | exact fun q => q.elim | skip
  intro hs A
  have hs : (amCmp .lt x 0 → J (amJ pc off) ls r h) ∧ (¬ amCmp .lt x 0 → K ls r h) := hs
  have ox : amIn x := am_hd A.ok
  exact lv_if_lt A.hx A.hb hd (Int.toNat_of_nonneg ho).symm (fun q => hJ _ _ _ _ (hs.1 ((amI_lt ox amIn_0).mp (by rw [amI_0]; exact q))) _ _ _ _ _ _ _ _ _ _ _ _ _ _ _ (A.to (am_tl A.ok))) (fun q => hK _ _ _ (hs.2 (fun z => q (by have z := (amI_lt ox amIn_0).mpr z; rw [amI_0] at z; exact z))) _ _ _ _ _ _ _ _ _ _ _ _ _ _ _ (A.to (am_tl A.ok)))
theorem X_ic_ge {off : Int} (he : amOkE M (pc, .if_icmp .ge off, len, aux, S)) (hs : amStep G M Q (pc, .if_icmp .ge off, len, aux, S) K J ls sk h) (hK : amHK G M Q pc len K) (hJ : amHJ G M Q J) : X G M Q pc ls sk h := by
  obtain ⟨hd, hl, ho⟩ := he
  cases (show len = 3 from hl)
  intro p e R s m args below meth c Z H locs cells slots LS A
  revert hs A
  rcases sk with _ | ⟨y | _ | _ | _ | _, _ | ⟨x | _ | _ | _ | _, r⟩⟩ <;> first | exact fun q => q.elim | skip
  intro hs A
  have hs : (amCmp .ge x y → J (amJ pc off) ls r h) ∧ (¬ amCmp .ge x y → K ls r h) := hs
  have ox : amIn x := am_hd (am_tl A.ok)
  have oy : amIn y := am_hd A.ok
  exact lv_icmp_ge A.hx A.hb hd (Int.toNat_of_nonneg ho).symm (fun q => hJ _ _ _ _ (hs.1 ((amI_le oy ox).mp q)) _ _ _ _ _ _ _ _ _ _ _ _ _ _ _ (A.to (am_tl (am_tl A.ok)))) (fun q => hK _ _ _ (hs.2 (fun z => q ((amI_le oy ox).mpr z))) _ _ _ _ _ _ _ _ _ _ _ _ _ _ _ (A.to (am_tl (am_tl A.ok))))
theorem X_if_ge {off : Int} (he : amOkE M (pc, .ifCond .ge off, len, aux, S)) (hs : amStep G M Q (pc, .ifCond .ge off, len, aux, S) K J ls sk h) (hK : amHK G M Q pc len K) (hJ : amHJ G M Q J) : X G M Q pc ls sk h := by
  obtain ⟨hd, hl, ho⟩ := he
  cases (show len = 3 from hl)
  intro p e R s m args below meth c Z H locs cells slots LS A
  revert hs A
  rcases sk with _ | ⟨x | _ | _ | _ | _, r⟩ <;> first | exact fun q => q.elim | skip
  intro hs A
  have hs : (amCmp .ge x 0 → J (amJ pc off) ls r h) ∧ (¬ amCmp .ge x 0 → K ls r h) := hs
  have ox : amIn x := am_hd A.ok
  exact lv_if_ge A.hx A.hb hd (Int.toNat_of_nonneg ho).symm (fun q => hJ _ _ _ _ (hs.1 ((amI_le amIn_0 ox).mp (by rw [amI_0]; exact q))) _ _ _ _ _ _ _ _ _ _ _ _ _ _ _ (A.to (am_tl A.ok))) (fun q => hK _ _ _ (hs.2 (fun z => q (by have z := (amI_le amIn_0 ox).mpr z; rw [amI_0] at z; exact z))) _ _ _ _ _ _ _ _ _ _ _ _ _ _ _ (A.to (am_tl A.ok)))
theorem X_ic_gt {off : Int} (he : amOkE M (pc, .if_icmp .gt off, len, aux, S)) (hs : amStep G M Q (pc, .if_icmp .gt off, len, aux, S) K J ls sk h) (hK : amHK G M Q pc len K) (hJ : amHJ G M Q J) : X G M Q pc ls sk h := by
  obtain ⟨hd, hl, ho⟩ := he
  cases (show len = 3 from hl)
  intro p e R s m args below meth c Z H locs cells slots LS A
  revert hs A
  rcases sk with _ | ⟨y | _ | _ | _ | _, _ | ⟨x | _ | _ | _ | _, r⟩⟩ <;> first | exact fun q => q.elim | skip
  intro hs A
  have hs : (amCmp .gt x y → J (amJ pc off) ls r h) ∧ (¬ amCmp .gt x y → K ls r h) := hs
  have ox : amIn x := am_hd (am_tl A.ok)
  have oy : amIn y := am_hd A.ok
  exact lv_icmp_gt A.hx A.hb hd (Int.toNat_of_nonneg ho).symm (fun q => hJ _ _ _ _ (hs.1 ((amI_lt oy ox).mp q)) _ _ _ _ _ _ _ _ _ _ _ _ _ _ _ (A.to (am_tl (am_tl A.ok)))) (fun q => hK _ _ _ (hs.2 (fun z => q ((amI_lt oy ox).mpr z))) _ _ _ _ _ _ _ _ _ _ _ _ _ _ _ (A.to (am_tl (am_tl A.ok))))
theorem X_if_gt {off : Int} (he : amOkE M (pc, .ifCond .gt off, len, aux, S)) (hs : amStep G M Q (pc, .ifCond .gt off, len, aux, S) K J ls sk h) (hK : amHK G M Q pc len K) (hJ : amHJ G M Q J) : X G M Q pc ls sk h := by
  obtain ⟨hd, hl, ho⟩ := he
  cases (show len = 3 from hl)
  intro p e R s m args below meth c Z H locs cells slots LS A
  revert hs A
  rcases sk with _ | ⟨x | _ | _ | _ | _, r⟩ <;> first | exact fun q => q.elim | skip
  intro hs A
  have hs : (amCmp .gt x 0 → J (amJ pc off) ls r h) ∧ (¬ amCmp .gt x 0 → K ls r h) := hs
  have ox : amIn x := am_hd A.ok
  exact lv_if_gt A.hx A.hb hd (Int.toNat_of_nonneg ho).symm (fun q => hJ _ _ _ _ (hs.1 ((amI_lt amIn_0 ox).mp (by rw [amI_0]; exact q))) _ _ _ _ _ _ _ _ _ _ _ _ _ _ _ (A.to (am_tl A.ok))) (fun q => hK _ _ _ (hs.2 (fun z => q (by have z := (amI_lt amIn_0 ox).mpr z; rw [amI_0] at z; exact z))) _ _ _ _ _ _ _ _ _ _ _ _ _ _ _ (A.to (am_tl A.ok)))
theorem X_ic_le {off : Int} (he : amOkE M (pc, .if_icmp .le off, len, aux, S)) (hs : amStep G M Q (pc, .if_icmp .le off, len, aux, S) K J ls sk h) (hK : amHK G M Q pc len K) (hJ : amHJ G M Q J) : X G M Q pc ls sk h := by
  obtain ⟨hd, hl, ho⟩ := he
  cases (show len = 3 from hl)
  intro p e R s m args below meth c Z H locs cells slots LS A
  revert hs A
  rcases sk with _ | ⟨y | _ | _ | _ | _, _ | ⟨x | _ | _ | _ | _, r⟩⟩ <;> first | exact fun q => q.elim | skip
  intro hs A
  have hs : (amCmp .le x y → J (amJ pc off) ls r h) ∧ (¬ amCmp .le x y → K ls r h) := hs
  have ox : amIn x := am_hd (am_tl A.ok)
  have oy : amIn y := am_hd A.ok
  exact lv_icmp_le A.hx A.hb hd (Int.toNat_of_nonneg ho).symm (fun q => hJ _ _ _ _ (hs.1 ((amI_le ox oy).mp q)) _ _ _ _ _ _ _ _ _ _ _ _ _ _ _ (A.to (am_tl (am_tl A.ok)))) (fun q => hK _ _ _ (hs.2 (fun z => q ((amI_le ox oy).mpr z))) _ _ _ _ _ _ _ _ _ _ _ _ _ _ _ (A.to (am_tl (am_tl A.ok))))
theorem X_if_le {off : Int} (he : amOkE M (pc, .ifCond .le off, len, aux, S)) (hs : amStep G M Q (pc, .ifCond .le off, len, aux, S) K J ls sk h) (hK : amHK G M Q pc len K) (hJ : amHJ G M Q J) : X G M Q pc ls sk h := by
  obtain ⟨hd, hl, ho⟩ := he
  cases (show len = 3 from hl)
  intro p e R s m args below meth c Z H locs cells slots LS A
  revert hs A
  rcases sk with _ | ⟨x | _ | _ | _ | _, r⟩ <;> first | exact fun q => q.elim | skip
  intro hs A
  have hs : (amCmp .le x 0 → J (amJ pc off) ls r h) ∧ (¬ amCmp .le x 0 → K ls r h) := hs
  have ox : amIn x := am_hd A.ok
  exact lv_if_le A.hx A.hb hd (Int.toNat_of_nonneg ho).symm (fun q => hJ _ _ _ _ (hs.1 ((amI_le ox amIn_0).mp (by rw [amI_0]; exact q))) _ _ _ _ _ _ _ _ _ _ _ _ _ _ _ (A.to (am_tl A.ok))) (fun q => hK _ _ _ (hs.2 (fun z => q (by have z := (amI_le ox amIn_0).mpr z; rw [amI_0] at z; exact z))) _ _ _ _ _ _ _ _ _ _ _ _ _ _ _ (A.to (am_tl A.ok)))
end PureRows
