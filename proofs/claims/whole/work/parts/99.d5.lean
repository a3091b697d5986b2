/-! ===== what is made: the class, joined ===== -/
theorem Zz_hiI {I : Nat → Nat → Int} {o : Nat} (h : Zz I 0 o) : ∀ i : Nat, Zz (hiI I o i) 0 (o + 49 * i) := fun i => by
  induction i with
  | zero => exact h
  | succ i ih => exact Zz_u2 (Zz_le ih (by omega)) (by omega) _ _
theorem Zz_hiR {R : Nat → Nat → Option Nat} {a o : Nat} (h : Zz R none o) (q : a < o) : ∀ i : Nat, Zz (hiR R a o i) none (o + 49 * i) := fun i => by
  induction i with
  | zero => exact h
  | succ i ih => exact Zz_u2 (Zz_le (Zz_wR (Zz_le ih (Nat.le_succ _)) (by omega)) (by omega)) (by omega) _ _
def i9a : Nat → Nat → Int := u2 (fun _ _ => (0 : Int)) 4 1 95
def i9b : Nat → Nat → Int := u2 i9a 53 1 95
def i9c : Nat → Nat → Int := hiI i9b 101 5
def r9a : Nat → Nat → Option Nat := wR (fun _ _ => none) 1 2
def r9b : Nat → Nat → Option Nat := wR (u2 r9a 0 0 (some 1)) 50 51
def r9c : Nat → Nat → Option Nat := hiR (u2 (u2 r9b 0 1 (some 50)) 99 0 (some 100)) 100 101 5
def r9d : Nat → Nat → Option Nat := u2 (u2 (u2 (u2 r9c 0 2 (some 99)) 346 0 (some 347)) 346 2 (some 348)) 346 3 (some 349)
def r9e : Nat → Nat → Option Nat := u2 (u2 (u2 (u2 (u2 (u2 r9d 0 3 (some 346)) 351 0 (some 352)) 351 1 (some 353)) 351 2 (some 354)) 350 0 (some 351)) 350 1 (some 355)
def r9f : Nat → Nat → Option Nat := u2 (u2 (u2 (u2 (u2 r9e 0 4 (some 350)) 357 0 (some 358)) 357 1 (some 359)) 357 2 (some 360)) 356 0 (some 357)
def r9 : Nat → Nat → Option Nat := u2 r9f 0 5 (some 356)
def s9a : List (Nat × Nat) := [(9, 0)] ++ [(8, 0)] ++ shWb
def s9b : List (Nat × Nat) := s9a ++ [(8, 0)] ++ shWb
def s9c : List (Nat × Nat) := s9b ++ [(1, 0)] ++ [(24, 5)] ++ hiS 5
def s9d : List (Nat × Nat) := s9c ++ [(6, 0)] ++ [(20, 60)] ++ [(20, 10)] ++ [(20, 10)]
def s9e : List (Nat × Nat) := s9d ++ [(0, 0)] ++ [(4, 0)] ++ [(20, 96)] ++ [(20, 96)] ++ [(20, 96)] ++ [(20, 96)]
def s9 : List (Nat × Nat) := s9e ++ [(2, 0)] ++ [(4, 0)] ++ [(20, 96)] ++ [(20, 96)] ++ [(20, 96)]
theorem s9_SH : s9 = SH.take 361 := by decide +kernel
theorem zL9 (k : Nat) : Zz (fun _ _ => (0 : Int64)) 0 k := fun _ _ _ => rfl
theorem zIa : Zz i9a 0 50 := Zz_u2 (fun _ _ _ => rfl) (by decide) _ _
theorem zIb : Zz i9b 0 99 := Zz_u2 (Zz_le zIa (by decide)) (by decide) _ _
theorem zIc : Zz i9c 0 346 := Zz_hiI (Zz_le zIb (by decide)) 5
theorem zRa : Zz r9a none 50 := Zz_wR (fun _ _ _ => rfl) (by decide)
theorem zRb : Zz r9b none 99 := Zz_wR (Zz_u2 (Zz_le zRa (by decide)) (by decide) _ _) (by decide)
theorem zRc : Zz r9c none 346 := Zz_hiR (Zz_u2 (Zz_u2 (Zz_le zRb (by decide)) (by decide) _ _) (by decide) _ _) (by decide) 5
theorem zRd : Zz r9d none 350 := Zz_u2 (Zz_u2 (Zz_u2 (Zz_u2 (Zz_le zRc (by decide)) (by decide) _ _) (by decide) _ _) (by decide) _ _) (by decide) _ _
theorem zRe : Zz r9e none 356 := Zz_u2 (Zz_u2 (Zz_u2 (Zz_u2 (Zz_u2 (Zz_u2 (Zz_le zRd (by decide)) (by decide) _ _) (by decide) _ _) (by decide) _ _) (by decide) _ _) (by decide) _ _) (by decide) _ _
theorem D_X9_init {G : amG} {c t : Nat} {Q : amR → amH → Prop} (hG : amG0 G) (hQ : Q (Sum.inl none) (i9c, r9, fun _ _ => 0, s9, 0, 0, 0)) : CT G sX9_init [aR (some 0)] (fun _ _ => 0, fun _ _ => none, fun _ _ => 0, [(9, 0)], 0, c, t) Q := by
  refine CT_of ok_X9_init hG (Nat.le_of_ble_eq_true rfl) ?_
  show X G mX9_init Q 0 _ [] (fun _ _ => 0, fun _ _ => none, fun _ _ => 0, [(9, 0)], 0, 360, 3355)
  have h6 : X G mX9_init Q 67 [some (aR (some 0))] [aR (some 356), aR (some 0)] (i9c, r9f, fun _ _ => 0, s9, 0, 0, 0) := by
    refine B_X9_init_67 ⟨?_, rfl, hQ⟩
    show s9[0]? = some (9, 0)
    decide +kernel
  have h5 : X G mX9_init Q 56 [some (aR (some 0))] [aR (some 350), aR (some 0)] (i9c, r9e, fun _ _ => 0, s9e, 0, 5, 292) := S_X9_56 hG (k := 356) (by decide +kernel) (by decide +kernel) (by decide) (by decide) (Zz_le zIc (by decide)) zRe (zL9 _) h6
  have h4 : X G mX9_init Q 45 [some (aR (some 0))] [aR (some 346), aR (some 0)] (i9c, r9d, fun _ _ => 0, s9d, 0, 11, 681) := S_X9_45 hG (k := 350) (by decide +kernel) (by decide +kernel) (by decide) (by decide) (Zz_le zIc (by decide)) zRd (zL9 _) h5
  have h3 : X G mX9_init Q 34 [some (aR (some 0))] [aR (some 99), aR (some 0)] (i9c, r9c, fun _ _ => 0, s9c, 0, 15, 765) := S_X9_34 hG (k := 346) (by decide +kernel) (by decide +kernel) (by decide) (by decide) zIc zRc (zL9 _) h4
  have h2 : X G mX9_init Q 23 [some (aR (some 0))] [aR (some 50), aR (some 0)] (i9b, r9b, fun _ _ => 0, s9b, 0, 262, 2617) := S_X9_23 hG (k := 99) (by decide +kernel) (by decide +kernel) (by decide) (by decide) zIb zRb (zL9 _) h3
  have h1 : X G mX9_init Q 12 [some (aR (some 0))] [aR (some 1), aR (some 0)] (i9a, r9a, fun _ _ => 0, s9a, 0, 311, 2986) := S_X9_12 hG (k := 50) (by decide +kernel) (by decide +kernel) (by decide) (by decide) zIa zRa (zL9 _) h2
  exact S_X9_0 hG (k := 1) rfl rfl (by decide) (by decide) (fun _ _ _ => rfl) (fun _ _ _ => rfl) (zL9 _) h1
