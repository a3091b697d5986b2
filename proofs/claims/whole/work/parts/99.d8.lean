/-! ===== between two calls of the law ===== -/
theorem lg_self (a : Int64) : (lg_cmp a a).toInt = (0 : Int) := by
  have e : lg_cmp a a = 0 := by
    unfold lg_cmp
    rw [if_neg (show ¬ a > a from Int64.lt_irrefl), if_pos rfl]
  exact (congrArg Int32.toInt e).trans (by decide)
theorem C_thrown {G : amG} {I : Nat → Nat → Int} {R : Nat → Nat → Option Nat} {L : Nat → Nat → Int64} {x c t : Nat} {Q : amR → amH → Prop} (hG : amG0 G) (hQ : Q (Sum.inl (some (aI (I 361 0)))) (I, R, L, SH, x, 0, 0)) : CT G sX10_thrown [aR (some 361)] (I, R, L, SH, x, c, t) Q := by
  refine CT_of ok_X10_thrown hG (Nat.le_of_ble_eq_true rfl) ?_
  show X G mX10_thrown Q 0 _ [] (I, R, L, SH, x, 0, 0)
  exact B_X10_thrown_0 ⟨sh361, hQ⟩
theorem CT_m3 {G : amG} {S : amS} {as : List amV} {I : Nat → Nat → Int} {R : Nat → Nat → Option Nat} {L : Nat → Nat → Int64} {x c t : Nat} {Q : amR → amH → Prop} {z : Row} (e : I 362 = z) (h : CT G S as (m3 I z (I 365) (I 366), R, L, SH, x, c, t) Q) : CT G S as (I, R, L, SH, x, c, t) Q := by
  subst e
  rw [m3_self] at h
  exact h
/-- the same 321 numbers -/
def eqR (w z : Row) : Prop := ∀ j : Nat, j < 321 → w j = z j
theorem WV_cg {I : Nat → Nat → Int} {b : Nat} {w z : Row} (h : WV I b z) (e : eqR w z) (hn : z 98 ≤ 12) : WV I b w := by
  obtain ⟨h1, h2, h3, h4, h5, h6, h7, h8, h9⟩ := h
  refine ⟨fun j hj => (h1 j hj).trans (e j (by omega)).symm, ⟨h2.1.trans (e 96 (by decide)).symm, h2.2.trans (e 97 (by decide)).symm⟩, h3.trans (e 98 (by decide)).symm, h4.trans (e 195 (by decide)).symm, h5.trans (e 316 (by decide)).symm, h6.trans (e 317 (by decide)).symm, h7.trans (e 318 (by decide)).symm, ⟨h8.1.trans (e 319 (by decide)).symm, h8.2.trans (e 320 (by decide)).symm⟩, fun k f hk hf => ?_⟩
  rw [e 98 (by decide)] at hk
  exact (h9 k f hk hf).trans (e (99 + 8 * k + f) (by omega)).symm
theorem WO_cg {I : Nat → Nat → Int} {b : Nat} {w z : Row} (h : WO I b z) (e : eqR w z) (h30 : 0 ≤ z 195 ∧ z 195 ≤ 30) : WO I b w := WO_keep h h30 (fun _ _ => rfl) (fun i _ h2 => e i (by omega))
/-- other heights and generals -/
theorem WF_g {w z : Row} (h : WF z) (hh : wfH w) (hg : wfG w) (e : ∀ j : Nat, 98 ≤ j → j < 321 → w j = z j) : WF w := by
  obtain ⟨⟨_, hn, ht, hu, _, hs⟩, ho, hc⟩ := h
  have e98 : w 98 = z 98 := e 98 (by decide) (by decide)
  have e195 : w 195 = z 195 := e 195 (by decide) (by decide)
  have e316 : w 316 = z 316 := e 316 (by decide) (by decide)
  have e317 : w 317 = z 317 := e 317 (by decide) (by decide)
  have e318 : w 318 = z 318 := e 318 (by decide) (by decide)
  have e319 : w 319 = z 319 := e 319 (by decide) (by decide)
  have e320 : w 320 = z 320 := e 320 (by decide) (by decide)
  have hn2 : z 98 ≤ 12 := hn.2
  have h30 : z 195 ≤ 30 := ho.1.2
  have et : ∀ k f : Nat, k < 12 → f < 8 → tf w k f = tf z k f := fun k f a b => e (99 + 8 * k + f) (by omega) (by omega)
  refine ⟨⟨hh, ?_, fun k hk => ?_, fun k l hk hl a1 a2 a3 => ?_, hg, fun k hk => ?_⟩, ⟨?_, fun k hk => ?_⟩, ?_, ?_, ?_, ?_, ?_, fun l hl => ?_⟩
  · unfold wfN; rw [e98]; exact hn
  · rw [e98] at hk
    have q := ht k hk
    unfold wfT1 at q ⊢
    rw [et k 0 (by omega) (by decide), et k 1 (by omega) (by decide), et k 2 (by omega) (by decide), et k 3 (by omega) (by decide), et k 4 (by omega) (by decide), et k 5 (by omega) (by decide), et k 6 (by omega) (by decide), et k 7 (by omega) (by decide)]
    exact q
  · rw [e98] at hk hl
    rw [et k 4 (by omega) (by decide)] at a1
    rw [et l 4 (by omega) (by decide)] at a2
    rw [et k 1 (by omega) (by decide), et l 1 (by omega) (by decide)] at a3
    exact hu k l hk hl a1 a2 a3
  · rw [e98] at hk
    have q := hs k hk
    rw [et k 4 (by omega) (by decide), et k 2 (by omega) (by decide), et k 5 (by omega) (by decide)]
    exact q
  · rw [e195]; exact ho.1
  · rw [e195] at hk
    have q := ho.2 k hk
    rw [e98, e316, e (196 + 4 * k + 1) (by omega) (by omega), e (196 + 4 * k + 2) (by omega) (by omega), e (196 + 4 * k + 3) (by omega) (by omega)]
    exact q
  · rw [e316]; exact hc.1
  · rw [e317]; exact hc.2.1
  · rw [e318, e316]; exact hc.2.2.1
  · rw [e319, e316]; exact hc.2.2.2.1
  · rw [e320, e316]; exact hc.2.2.2.2.1
  · rw [et l 7 hl (by decide), e316]; exact hc.2.2.2.2.2 l hl
theorem WF_cg {w z : Row} (h : WF z) (e : eqR w z) : WF w := by
  refine WF_g h (fun j hj => ?_) ?_ (fun j _ h2 => e j h2)
  · rw [e j (by omega)]; exact h.1.1 j hj
  · have q := h.1.2.2.2.2.1
    unfold wfG at q ⊢
    rw [e 96 (by decide), e 97 (by decide)]
    exact q
/-- a row that stands between two calls, after k calls -/
def ZK (k : Int) (z : Row) : Prop := WF z ∧ z 316 ≤ 1000 ∧ z 317 ≤ 100 * k
theorem ZK.f {k : Int} {z : Row} (h : ZK k z) (hk : k ≤ 600) : ZF z := ⟨h.1, h.2.1, by have := h.2.2; omega⟩
theorem ZK_up {k l : Int} {z : Row} (h : ZK k z) (hk : k ≤ l) : ZK l z := ⟨h.1, h.2.1, by have := h.2.2; omega⟩
theorem ZK_cg {k : Int} {w z : Row} (h : ZK k z) (e : eqR w z) : ZK k w := ⟨WF_cg h.1 e, by rw [e 316 (by decide)]; exact h.2.1, by rw [e 317 (by decide)]; exact h.2.2⟩
theorem CS_cg {I : Nat → Nat → Int} {R : Nat → Nat → Option Nat} {w z : Row} {n : Int} {zs : Nat → Row} (h : CS I R z n zs) (e : eqR w z) (hW : WF z) : CS I R w n zs := ⟨WV_cg h.1 e hW.1.2.1.2, WO_cg h.2.1 e hW.2.1.1, h.2.2⟩
/-- the law's two sides agree, after k calls -/
def LJ (k : Int) (I : Nat → Nat → Int) (R : Nat → Nat → Option Nat) (zs : Nat → Row) : Prop := RK R ∧ CS I R (I 362) (I 361 2) zs ∧ ZK k (I 362) ∧ (∀ i : Nat, (i : Int) < I 361 2 → ZK k (zs i) ∧ ∀ j : Nat, j < 321 → zs i j = I 363 (321 * i + j)) ∧ I 347 = I 364 ∧ I 346 1 = I 361 4 ∧ (0 ≤ I 361 4 ∧ I 361 4 ≤ 60) ∧ ∀ j : Nat, j < 60 → 0 ≤ I 364 j ∧ I 364 j ≤ 1000
def LI (k : Int) (I : Nat → Nat → Int) (R : Nat → Nat → Option Nat) : Prop := ∃ zs : Nat → Row, LJ k I R zs
theorem LI_core {k : Int} {J K : Nat → Nat → Int} {R : Nat → Nat → Option Nat} {z : Row} {n : Int} {zs : Nat → Row} (hk : k ≤ 600) (hR : RK R) (hC : CS J R z n zs) (hz : ZK k z) (hs : ∀ i : Nat, (i : Int) < n → ZK k (zs i) ∧ ∀ j : Nat, j < 321 → zs i j = K 363 (321 * i + j)) (k0 : ∀ a : Nat, a < 361 → K a = J a) (k1 : K 362 = z) (k2 : K 361 2 = n) (k3 : J 347 = K 364) (k4 : J 346 1 = K 361 4) (k5 : 0 ≤ K 361 4 ∧ K 361 4 ≤ 60) (k6 : ∀ j : Nat, j < 60 → 0 ≤ K 364 j ∧ K 364 j ≤ 1000) : LI k K R := by
  refine ⟨zs, hR, ?_, ?_, ?_, ?_, ?_, k5, k6⟩
  · rw [k1, k2]
    exact CS_off hC (hz.f hk) (fun c hc => k0 c (by omega))
  · rw [k1]; exact hz
  · rw [k2]; exact hs
  · rw [k0 347 (by decide)]; exact k3
  · rw [k0 346 (by decide)]; exact k4
/-- nothing has changed but scratch -/
theorem LJ_same {k : Int} {I J K : Nat → Nat → Int} {R R' : Nat → Nat → Option Nat} {zs : Nat → Row} (h : LJ k I R zs) (hk : k < 600) (j1 : ∀ a : Nat, 361 ≤ a → J a = I a) (j2 : J 346 = I 346) (j3 : J 347 = I 347) (j4 : RK R') (j5 : CS J R' (I 362) (I 361 2) zs) (k0 : ∀ a : Nat, a < 361 → K a = J a) (k1 : K 362 = J 362) (k2 : K 363 = J 363) (k3 : K 364 = J 364) (k4 : K 361 2 = J 361 2) (k5 : K 361 4 = J 361 4) : LI (k + 1) K R' := by
  obtain ⟨h1, h2, h3, h4, h5, h6, h7, h8⟩ := h
  have e1 : J 361 = I 361 := j1 361 (by decide)
  have e2 : J 362 = I 362 := j1 362 (by decide)
  have e3 : J 363 = I 363 := j1 363 (by decide)
  have e4 : J 364 = I 364 := j1 364 (by decide)
  refine LI_core (by omega) j4 j5 (ZK_up h3 (by omega)) (fun i hi => ⟨ZK_up (h4 i hi).1 (by omega), ?_⟩) k0 (k1.trans e2) ?_ ?_ ?_ ?_ ?_
  · rw [k2, e3]; exact (h4 i hi).2
  · rw [k4, e1]
  · rw [k3, j3, e4, h5]
  · rw [k5, e1, j2, h6]
  · rw [k5, e1]; exact h7
  · rw [k3, e4]; exact h8
theorem sv_rows {k n : Int} {s z : Row} {zs : Nat → Row} (hn : 0 ≤ n ∧ n ≤ 5) (h : ∀ i : Nat, (i : Int) < n → ZK k (zs i) ∧ ∀ j : Nat, j < 321 → zs i j = s (321 * i + j)) (hz : ZK k z) : ∀ i : Nat, (i : Int) < svN n → ZK k (svZ n zs z i) ∧ ∀ j : Nat, j < 321 → svZ n zs z i j = svS s z n (321 * i + j) := by
  intro i hi
  by_cases h5 : n = 5
  · unfold svN at hi
    rw [if_pos h5] at hi
    unfold svZ svS
    rw [if_pos h5, if_pos h5, if_pos h5]
    have e : ((321 : Int) * 4).toNat = 1284 := rfl
    rw [e]
    by_cases h4 : (i : Int) < 4
    · rw [if_pos h4]
      have q := h (i + 1) (by omega)
      refine ⟨q.1, fun j hj => ?_⟩
      rw [cpS_at, if_neg (by omega), shS_at, if_pos (by omega), q.2 j hj]
      exact congrArg s (by omega)
    · rw [if_neg h4]
      refine ⟨hz, fun j hj => ?_⟩
      rw [cpS_at, if_pos (by omega)]
      exact congrArg z (by omega)
  · unfold svN at hi
    rw [if_neg h5] at hi
    unfold svZ svS
    rw [if_neg h5, if_neg h5, if_neg h5]
    by_cases h4 : (i : Int) < n
    · rw [if_pos h4]
      have q := h i h4
      refine ⟨q.1, fun j hj => ?_⟩
      rw [cpS_at, if_neg (by omega)]
      exact q.2 j hj
    · rw [if_neg h4]
      refine ⟨hz, fun j hj => ?_⟩
      rw [cpS_at, if_pos (by omega)]
      exact congrArg z (by omega)
/-- a writer: the war is kept, and another stands -/
theorem LJ_save {k : Int} {I J K : Nat → Nat → Int} {R R' : Nat → Nat → Option Nat} {zs : Nat → Row} {z : Row} (h : LJ k I R zs) (hk : k < 600) (j1 : ∀ a : Nat, 361 ≤ a → J a = I a) (j3 : J 347 = I 347) (j4 : RK R') (j5 : CS J R' z (svN (I 361 2)) (svZ (I 361 2) zs (I 362))) (hz : ZK (k + 1) z) (k0 : ∀ a : Nat, a < 361 → K a = J a) (k1 : K 362 = z) (k2 : K 363 = svS (J 363) (I 362) (J 361 2)) (k3 : K 364 = J 364) (k4 : K 361 2 = svN (J 361 2)) (k5 : J 346 1 = K 361 4) (k6 : 0 ≤ K 361 4 ∧ K 361 4 ≤ 60) : LI (k + 1) K R' := by
  obtain ⟨h1, h2, h3, h4, h5, h6, h7, h8⟩ := h
  have e1 : J 361 = I 361 := j1 361 (by decide)
  have e3 : J 363 = I 363 := j1 363 (by decide)
  have e4 : J 364 = I 364 := j1 364 (by decide)
  have hn : 0 ≤ I 361 2 ∧ I 361 2 ≤ 5 := h2.2.2.2.1
  have hr := sv_rows hn (fun i hi => ⟨ZK_up (h4 i hi).1 (show k ≤ k + 1 by omega), (h4 i hi).2⟩) (ZK_up h3 (show k ≤ k + 1 by omega))
  refine LI_core (by omega) j4 j5 hz (fun i hi => ⟨(hr i hi).1, ?_⟩) k0 k1 ?_ ?_ k5 k6 ?_
  · rw [k2, e3, e1]; exact (hr i hi).2
  · rw [k4, e1]
  · rw [k3, j3, e4, h5]
  · rw [k3, e4]; exact h8
theorem LJ_i {k : Int} {I J : Nat → Nat → Int} {R R' : Nat → Nat → Option Nat} {zs : Nat → Row} (h : LJ k I R zs) (hk : k < 600) (j1 : ∀ a : Nat, 361 ≤ a → J a = I a) (j2 : J 346 = I 346) (j3 : J 347 = I 347) (j4 : RK R') (j5 : CS J R' (I 362) (I 361 2) zs) (v : Int) (f q : Row) : LI (k + 1) (m3 (u2 J 361 0 v) (I 362) f q) R' := by
  refine LJ_same h hk j1 j2 j3 j4 j5 (fun a ha => ?_) ?_ ?_ ?_ ?_ ?_
  · rw [m3_o _ _ _ _ ⟨by omega, by omega, by omega⟩, u2_off _ _ _ (by omega)]
  · rw [m3_z, j1 362 (by decide)]
  · rw [m3_o _ _ _ _ ⟨by decide, by decide, by decide⟩, u2_off _ _ _ (by decide)]
  · rw [m3_o _ _ _ _ ⟨by decide, by decide, by decide⟩, u2_off _ _ _ (by decide)]
  · rw [m3_o _ _ _ _ ⟨by decide, by decide, by decide⟩, u2_at, uz_ne _ _ (by decide)]
  · rw [m3_o _ _ _ _ ⟨by decide, by decide, by decide⟩, u2_at, uz_ne _ _ (by decide)]
theorem LJ_a {k : Int} {I J : Nat → Nat → Int} {R R' : Nat → Nat → Option Nat} {zs : Nat → Row} (h : LJ k I R zs) (hk : k < 600) (j1 : ∀ a : Nat, 361 ≤ a → J a = I a) (j2 : J 346 = I 346) (j3 : J 347 = I 347) (j4 : RK R') (j5 : CS J R' (I 362) (I 361 2) zs) (v : Int) (a f q : Row) : LI (k + 1) (m3 (pr (u2 J 361 0 v) 367 a) (I 362) f q) R' := by
  refine LJ_same h hk j1 j2 j3 j4 j5 (fun a ha => ?_) ?_ ?_ ?_ ?_ ?_
  · rw [m3_o _ _ _ _ ⟨by omega, by omega, by omega⟩, pr_off _ _ (by omega), u2_off _ _ _ (by omega)]
  · rw [m3_z, j1 362 (by decide)]
  · rw [m3_o _ _ _ _ ⟨by decide, by decide, by decide⟩, pr_off _ _ (by decide), u2_off _ _ _ (by decide)]
  · rw [m3_o _ _ _ _ ⟨by decide, by decide, by decide⟩, pr_off _ _ (by decide), u2_off _ _ _ (by decide)]
  · rw [m3_o _ _ _ _ ⟨by decide, by decide, by decide⟩, pr_off _ _ (by decide), u2_at, uz_ne _ _ (by decide)]
  · rw [m3_o _ _ _ _ ⟨by decide, by decide, by decide⟩, pr_off _ _ (by decide), u2_at, uz_ne _ _ (by decide)]
theorem LJ_w {k : Int} {I J : Nat → Nat → Int} {R R' : Nat → Nat → Option Nat} {zs : Nat → Row} {z : Row} (h : LJ k I R zs) (hk : k < 600) (hz : ZK (k + 1) z) (j1 : ∀ a : Nat, 361 ≤ a → J a = I a) (j2 : J 346 = I 346) (j3 : J 347 = I 347) (j4 : RK R') (j5 : CS J R' z (svN (I 361 2)) (svZ (I 361 2) zs (I 362))) (f q : Row) : LI (k + 1) (m3 (svH (u2 J 361 0 0) (I 362)) z f q) R' := by
  have e1 : J 361 = I 361 := j1 361 (by decide)
  have e4 : m3 (svH (u2 J 361 0 0) (I 362)) z f q 361 4 = I 361 4 := by
    rw [m3_o _ _ _ _ ⟨by decide, by decide, by decide⟩, svH_f _ _ (by decide), u2_at, uz_ne _ _ (by decide), e1]
  have hl : 0 ≤ I 361 4 ∧ I 361 4 ≤ 60 := h.2.2.2.2.2.2.1
  have hx : I 346 1 = I 361 4 := h.2.2.2.2.2.1
  refine LJ_save h hk j1 j3 j4 j5 hz (fun a ha => ?_) ?_ ?_ ?_ ?_ ?_ ?_
  · rw [m3_o _ _ _ _ ⟨by omega, by omega, by omega⟩, svH_off _ _ ⟨by omega, by omega⟩, u2_off _ _ _ (by omega)]
  · rw [m3_z]
  · rw [m3_o _ _ _ _ ⟨by decide, by decide, by decide⟩]
    unfold svH
    rw [u2_off _ _ _ (by decide), pr_at, u2_off _ _ _ (by decide), u2_at, uz_ne _ _ (by decide)]
  · rw [m3_o _ _ _ _ ⟨by decide, by decide, by decide⟩, svH_off _ _ ⟨by decide, by decide⟩, u2_off _ _ _ (by decide)]
  · rw [m3_o _ _ _ _ ⟨by decide, by decide, by decide⟩, svH_n, u2_at, uz_ne _ _ (by decide)]
  · rw [e4, j2, hx]
  · rw [e4]; exact hl
theorem m3_0 (J : Nat → Nat → Int) (v : Int) (z f q : Row) : m3 (u2 J 361 0 v) z f q 361 0 = v := by
  rw [m3_o _ _ _ _ ⟨by decide, by decide, by decide⟩, u2_at, uz_same]
theorem m3_0a (J : Nat → Nat → Int) (v : Int) (a z f q : Row) : m3 (pr (u2 J 361 0 v) 367 a) z f q 361 0 = v := by
  rw [m3_o _ _ _ _ ⟨by decide, by decide, by decide⟩, pr_off _ _ (by decide), u2_at, uz_same]
theorem m3_0w (J : Nat → Nat → Int) (v : Int) (y z f q : Row) : m3 (svH (u2 J 361 0 v) y) z f q 361 0 = v := by
  rw [m3_o _ _ _ _ ⟨by decide, by decide, by decide⟩, svH_f _ _ (by decide), u2_at, uz_same]
/-- what each writer leaves -/
theorem shZ_w {z : Row} {a b h : Int} (ha : 0 ≤ a) (hh : 0 ≤ h ∧ h ≤ 9) (hz : wfH z) : ∀ n : Nat, a + n ≤ 96 → wfH (shZ z a b h n).1 ∧ ∀ i : Nat, 96 ≤ i → (shZ z a b h n).1 i = z i := by
  intro n
  induction n with
  | zero => intro _; exact ⟨hz, fun _ _ => rfl⟩
  | succ n ih =>
    intro hn
    have q := ih (by omega)
    rw [shZ_s]
    split
    · refine ⟨fun j hj => ?_, fun i hi => ?_⟩
      · show 0 ≤ uz (shZ z a b h n).1 (a + n).toNat h j ∧ uz (shZ z a b h n).1 (a + n).toNat h j ≤ 9
        by_cases e : j = (a + n).toNat
        · rw [e, uz_same]; exact hh
        · rw [uz_ne _ _ e]; exact q.1 j hj
      · show uz (shZ z a b h n).1 (a + n).toNat h i = z i
        rw [uz_ne _ _ (by omega)]
        exact q.2 i hi
    · exact q
theorem ZK_sh {k : Int} {z : Row} {u v w : Int} (h : ZK k z) (hp : ((0 ≤ u ∧ u ≤ 95) ∧ 0 ≤ v ∧ v ≤ 95) ∧ ((u % 12 ≤ v % 12 ∧ u / 12 ≤ v / 12) ∧ 0 ≤ w ∧ w ≤ 9)) : ZK (k + 1) (shZ z u v w (v - u + 1).toNat).1 := by
  have huv : u ≤ v := by omega
  obtain ⟨a1, a2⟩ := shZ_w (b := v) (by omega : 0 ≤ u) hp.2.2 h.1.1.1 (v - u + 1).toNat (by omega)
  refine ⟨WF_g h.1 a1 ?_ (fun j hj _ => a2 j (by omega)), ?_, ?_⟩
  · have q := h.1.1.2.2.2.2.1
    unfold wfG at q ⊢
    rw [a2 96 (by decide), a2 97 (by decide)]
    exact q
  · rw [a2 316 (by decide)]; exact h.2.1
  · rw [a2 317 (by decide)]; have := h.2.2; omega
theorem ZK_mg {k : Int} {z : Row} {u v : Int} (h : ZK k z) (hp : (0 ≤ u ∧ u ≤ 1) ∧ 0 ≤ v ∧ v ≤ 95) : ZK (k + 1) (uz z (96 + u).toNat v) := by
  have e : ∀ j : Nat, j ≠ 96 → j ≠ 97 → uz z (96 + u).toNat v j = z j := fun j h1 h2 => uz_ne _ _ (by omega)
  refine ⟨WF_g h.1 (fun j hj => ?_) ?_ (fun j hj _ => e j (by omega) (by omega)), ?_, ?_⟩
  · rw [e j (by omega) (by omega)]; exact h.1.1.1 j hj
  · have q := h.1.1.2.2.2.2.1
    unfold wfG isC at q ⊢
    rcases (by omega : u = 0 ∨ u = 1) with r | r <;> subst r
    · refine ⟨?_, ?_⟩
      · rw [show ((96 : Int) + 0).toNat = 96 from rfl, uz_same]; omega
      · rw [uz_ne _ _ (by decide)]; exact q.2
    · refine ⟨?_, ?_⟩
      · rw [uz_ne _ _ (by decide)]; exact q.1
      · rw [show ((96 : Int) + 1).toNat = 97 from rfl, uz_same]; omega
  · rw [e 316 (by decide) (by decide)]; exact h.2.1
  · rw [e 317 (by decide) (by decide)]; have := h.2.2; omega
theorem ZK_ad {k : Int} {z : Row} {u v w : Int} (h : ZK k z) (hp : ((0 ≤ u ∧ u ≤ 1) ∧ 0 ≤ v ∧ v ≤ 95) ∧ (1 ≤ w ∧ w ≤ 20) ∧ ¬ (z 98 = 12 ∨ tAt z v ≠ -1)) : ZK (k + 1) (adZ z (z 98).toNat u v w) := by
  have hn : 0 ≤ z 98 ∧ z 98 ≤ 12 := h.1.1.2.1
  have h12 : z 98 ≠ 12 := fun q => hp.2.2 (Or.inl q)
  have ha : tAt z v = -1 := by
    by_cases q : tAt z v = -1
    · exact q
    · exact absurd (Or.inr q) hp.2.2
  refine ⟨adZ_WF h.1 hp.1.1 (by unfold isC; omega) hp.2.1 h12 ha, ?_, ?_⟩
  · rw [adZ_off (by omega) (by decide)]; exact h.2.1
  · rw [adZ_off (by omega) (by decide)]; have := h.2.2; omega
theorem ZK_gi {k : Int} {z : Row} {u v : Int} (h : ZK k z) (hk : k ≤ 600) (hp : ((0 ≤ u ∧ u < z 98) ∧ 0 ≤ v ∧ v ≤ 95) ∧ whyN z u.toNat = 0) : ZK (k + 1) (giveZ z u v) := by
  have w0 := (whyN_0 hp.2).2.2
  have w1 : 0 ≤ z 195 ∧ z 195 ≤ 30 := h.1.2.1.1
  have h30 : 0 ≤ z 195 ∧ z 195 < 30 := ⟨w1.1, by omega⟩
  have g := giveZ_at u v h30
  have := h.2.2
  refine ⟨giveZ_WF h.1 h.2.1 hp.1.1 (by unfold isC; omega) hp.2 (by omega), ?_, ?_⟩
  · rw [g.1 316 (Or.inr ⟨by decide, by decide⟩)]; exact h.2.1
  · rw [g.2.2.1]; omega
theorem ZK_pa {k : Int} {z : Row} {u : Int} (h : ZK k z) (hp : (1 ≤ u ∧ u ≤ 50) ∧ z 316 + u ≤ 1000) : ZK (k + 1) (passN z u.toNat) := by
  have g := passN_inv h.1 u.toNat (by omega)
  refine ⟨g.1, by rw [g.2.1]; omega, by rw [g.2.2.2.1]; have := h.2.2; omega⟩
theorem ZK_ld {k : Int} {z r : Row} {o : Int} {m : Nat} (h : ZK k z) (hk : k ≤ 600) (hr : rOK r o) (ho : o ≤ 90) (hm : (m : Int) ≤ o + 1) (hl : ∀ i : Nat, i < m → ldC z r i) : ZK (k + 1) (ldZ z r m) := by
  have h3 := h.2.2
  have g := ldZ_WF h.1 h.2.1 (by omega) hr (by omega) m hm hl
  refine ⟨g.1, by rw [g.2.2.1]; exact h.2.1, by rw [g.2.2.2.1]; omega⟩
