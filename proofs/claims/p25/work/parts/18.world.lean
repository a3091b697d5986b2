/-! ===== the world behind the constructors: which cell is what; sT: what the law makes behind it ===== -/
def shWar : List (Nat × Nat) := [(8, 0), (5, 0), (20, 96), (20, 2), (22, 12), (23, 30), (20, 2)] ++ (List.replicate 12 (7, 0) ++ List.replicate 30 (3, 0))
def SH0 : List (Nat × Nat) := [(9, 0)] ++ (shWar ++ (shWar ++ ([(1, 0), (24, 5)] ++ (shWar ++ (shWar ++ (shWar ++ (shWar ++ (shWar ++ [(6, 0), (20, 60), (20, 10), (20, 10), (0, 0), (4, 0), (20, 96), (20, 96), (20, 96), (20, 96), (2, 0), (4, 0), (20, 96), (20, 96), (20, 96)]))))))))
def SH (sT : List (Nat × Nat)) : List (Nat × Nat) := SH0 ++ sT
theorem SH0_len : SH0.length = 361 := by decide +kernel
theorem SH_at {sT : List (Nat × Nat)} {k : Nat} {v : Nat × Nat} (h : SH0[k]? = some v) : (SH sT)[k]? = some v := by
  unfold SH
  rw [List.getElem?_append_left (List.getElem?_eq_some_iff.mp h).1]
  exact h
theorem SH_len (sT : List (Nat × Nat)) : (SH sT).length = 361 + sT.length := by
  unfold SH
  rw [List.length_append, SH0_len]
/-- a cell behind the class' own -/
theorem SH_ge {sT : List (Nat × Nat)} {k : Nat} : (SH sT)[361 + k]? = sT[k]? := by
  unfold SH
  rw [List.getElem?_append_right (by rw [SH0_len]; omega), SH0_len, Nat.add_sub_cancel_left]
/-- one row of numbers, one of them new -/
def uz (f : Nat → Int) (k : Nat) (v : Int) : Nat → Int := fun j => if j = k then v else f j
theorem u2_at (f : Nat → Nat → Int) (a k : Nat) (v : Int) : u2 f a k v a = uz (f a) k v := funext (fun j => by
  unfold u2 uz
  by_cases h : j = k
  · rw [if_pos ⟨rfl, h⟩, if_pos h]
  · rw [if_neg (fun q => h q.2), if_neg h])
theorem u2_off (f : Nat → Nat → Int) {a b : Nat} (k : Nat) (v : Int) (h : b ≠ a) : u2 f a k v b = f b := funext (fun _ => u2_ne f v (fun q => h q.1))
theorem uz_same (f : Nat → Int) (k : Nat) (v : Int) : uz f k v k = v := if_pos rfl
theorem uz_ne (f : Nat → Int) {k j : Nat} (v : Int) (h : j ≠ k) : uz f k v j = f j := if_neg h
/-- behind a call that makes nothing -/
theorem af_I0 {M : amM} {Q : amR → amH → Prop} {S : amS} {pc : Nat} {K : amK1} {J : amJ1} {ls : List (Option amV)} {r : List amV} {h : amH} {v : amV} {I1 : Nat → Nat → Int} {R1 : Nat → Nat → Option Nat} {L1 : Nat → Nat → Int64} {S1 : List (Nat × Nat)} {x1 c1 t1 : Nat} (h0 : sc S = 0) (h1 : st S = 0) (h2 : sr S ≠ none) (hk : K ls (v :: r) (I1, R1, L1, S1, x1, h.2.2.2.2.2.1, h.2.2.2.2.2.2)) : amAf M Q S pc K J ls r h (Sum.inl (some v)) (I1, R1, L1, S1, x1, c1, t1) := by
  refine ⟨h2, ?_⟩
  rw [h0, h1]
  exact hk
theorem af_N0 {M : amM} {Q : amR → amH → Prop} {S : amS} {pc : Nat} {K : amK1} {J : amJ1} {ls : List (Option amV)} {r : List amV} {h : amH} {I1 : Nat → Nat → Int} {R1 : Nat → Nat → Option Nat} {L1 : Nat → Nat → Int64} {S1 : List (Nat × Nat)} {x1 c1 t1 : Nat} (h0 : sc S = 0) (h1 : st S = 0) (h2 : sr S = none) (hk : K ls r (I1, R1, L1, S1, x1, h.2.2.2.2.2.1, h.2.2.2.2.2.2)) : amAf M Q S pc K J ls r h (Sum.inl none) (I1, R1, L1, S1, x1, c1, t1) := by
  refine ⟨h2, ?_⟩
  rw [h0, h1]
  exact hk
theorem af_I {M : amM} {Q : amR → amH → Prop} {S : amS} {pc : Nat} {K : amK1} {J : amJ1} {ls : List (Option amV)} {r : List amV} {h : amH} {v : amV} {I1 : Nat → Nat → Int} {R1 : Nat → Nat → Option Nat} {L1 : Nat → Nat → Int64} {S1 : List (Nat × Nat)} {x1 c1 t1 cc tt : Nat} (h0 : sc S = cc) (h1 : st S = tt) (h2 : sr S ≠ none) (hk : K ls (v :: r) (I1, R1, L1, S1, x1, h.2.2.2.2.2.1 - cc, h.2.2.2.2.2.2 - tt)) : amAf M Q S pc K J ls r h (Sum.inl (some v)) (I1, R1, L1, S1, x1, c1, t1) := by
  refine ⟨h2, ?_⟩
  rw [h0, h1]
  exact hk
theorem af_N {M : amM} {Q : amR → amH → Prop} {S : amS} {pc : Nat} {K : amK1} {J : amJ1} {ls : List (Option amV)} {r : List amV} {h : amH} {I1 : Nat → Nat → Int} {R1 : Nat → Nat → Option Nat} {L1 : Nat → Nat → Int64} {S1 : List (Nat × Nat)} {x1 c1 t1 cc tt : Nat} (h0 : sc S = cc) (h1 : st S = tt) (h2 : sr S = none) (hk : K ls r (I1, R1, L1, S1, x1, h.2.2.2.2.2.1 - cc, h.2.2.2.2.2.2 - tt)) : amAf M Q S pc K J ls r h (Sum.inl none) (I1, R1, L1, S1, x1, c1, t1) := by
  refine ⟨h2, ?_⟩
  rw [h0, h1]
  exact hk
