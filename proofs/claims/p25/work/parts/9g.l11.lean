/-! ===== what an act leaves ===== -/
theorem WF_g {w z : Row} (h : WF z) (hh : wfH w) (hg : wfG w) (e : ∀ j : Nat, 98 ≤ j → j < 321 → w j = z j) : WF w := by
  obtain ⟨⟨_, hn, ht, hu, _, hs⟩, ho, hc⟩ := h
  have e98 : w 98 = z 98 := e 98 (by decide) (by decide)
  have e195 : w 195 = z 195 := e 195 (by decide) (by decide)
  have e316 : w 316 = z 316 := e 316 (by decide) (by decide)
  have e317 : w 317 = z 317 := e 317 (by decide) (by decide)
  have e318 : w 318 = z 318 := e 318 (by decide) (by decide)
  have e319 : w 319 = z 319 := e 319 (by decide) (by decide)
  have e320 : w 320 = z 320 := e 320 (by decide) (by decide)
  have hn2 : z 98 ≤ 12 := hn.2
  have h30 : z 195 ≤ 30 := ho.1.2
  have et : ∀ k f : Nat, k < 12 → f < 8 → tf w k f = tf z k f := fun k f a b => e (99 + 8 * k + f) (by omega) (by omega)
  refine ⟨⟨hh, ?_, fun k hk => ?_, fun k l hk hl a1 a2 a3 => ?_, hg, fun k hk => ?_⟩, ⟨?_, fun k hk => ?_⟩, ?_, ?_, ?_, ?_, ?_, fun l hl => ?_⟩
  · unfold wfN; rw [e98]; exact hn
  · rw [e98] at hk
    have q := ht k hk
    unfold wfT1 at q ⊢
    rw [et k 0 (by omega) (by decide), et k 1 (by omega) (by decide), et k 2 (by omega) (by decide), et k 3 (by omega) (by decide), et k 4 (by omega) (by decide), et k 5 (by omega) (by decide), et k 6 (by omega) (by decide), et k 7 (by omega) (by decide)]
    exact q
  · rw [e98] at hk hl
    rw [et k 4 (by omega) (by decide)] at a1
    rw [et l 4 (by omega) (by decide)] at a2
    rw [et k 1 (by omega) (by decide), et l 1 (by omega) (by decide)] at a3
    exact hu k l hk hl a1 a2 a3
  · rw [e98] at hk
    have q := hs k hk
    rw [et k 4 (by omega) (by decide), et k 2 (by omega) (by decide), et k 5 (by omega) (by decide)]
    exact q
  · rw [e195]; exact ho.1
  · rw [e195] at hk
    have q := ho.2 k hk
    rw [e98, e316, e (196 + 4 * k + 1) (by omega) (by omega), e (196 + 4 * k + 2) (by omega) (by omega), e (196 + 4 * k + 3) (by omega) (by omega)]
    exact q
  · rw [e316]; exact hc.1
  · rw [e317]; exact hc.2.1
  · rw [e318, e316]; exact hc.2.2.1
  · rw [e319, e316]; exact hc.2.2.2.1
  · rw [e320, e316]; exact hc.2.2.2.2.1
  · rw [et l 7 hl (by decide), e316]; exact hc.2.2.2.2.2 l hl
theorem shZ_w {z : Row} {a b h : Int} (ha : 0 ≤ a) (hh : 0 ≤ h ∧ h ≤ 9) (hz : wfH z) : ∀ n : Nat, a + n ≤ 96 → wfH (shZ z a b h n).1 ∧ ∀ i : Nat, 96 ≤ i → (shZ z a b h n).1 i = z i := by
  intro n
  induction n with
  | zero => intro _; exact ⟨hz, fun _ _ => rfl⟩
  | succ n ih =>
    intro hn
    have q := ih (by omega)
    rw [shZ_s]
    split
    · refine ⟨fun j hj => ?_, fun i hi => ?_⟩
      · show 0 ≤ uz (shZ z a b h n).1 (a + n).toNat h j ∧ uz (shZ z a b h n).1 (a + n).toNat h j ≤ 9
        by_cases e : j = (a + n).toNat
        · rw [e, uz_same]; exact hh
        · rw [uz_ne _ _ e]; exact q.1 j hj
      · show uz (shZ z a b h n).1 (a + n).toNat h i = z i
        rw [uz_ne _ _ (by omega)]
        exact q.2 i hi
    · exact q
theorem sh_WF {z : Row} {u v w : Int} (h : WF z) (hp : ((0 ≤ u ∧ u ≤ 95) ∧ 0 ≤ v ∧ v ≤ 95) ∧ ((u % 12 ≤ v % 12 ∧ u / 12 ≤ v / 12) ∧ 0 ≤ w ∧ w ≤ 9)) : WF (shZ z u v w (v - u + 1).toNat).1 ∧ ∀ i : Nat, 96 ≤ i → (shZ z u v w (v - u + 1).toNat).1 i = z i := by
  have huv : u ≤ v := by omega
  obtain ⟨a1, a2⟩ := shZ_w (b := v) (by omega : 0 ≤ u) hp.2.2 h.1.1 (v - u + 1).toNat (by omega)
  refine ⟨WF_g h a1 ?_ (fun j hj _ => a2 j (by omega)), a2⟩
  have q := h.1.2.2.2.2.1
  unfold wfG at q ⊢
  rw [a2 96 (by decide), a2 97 (by decide)]
  exact q
theorem mg_WF {z : Row} {u v : Int} (h : WF z) (hp : (0 ≤ u ∧ u ≤ 1) ∧ 0 ≤ v ∧ v ≤ 95) : WF (uz z (96 + u).toNat v) := by
  have e : ∀ j : Nat, j ≠ 96 → j ≠ 97 → uz z (96 + u).toNat v j = z j := fun j h1 h2 => uz_ne _ _ (by omega)
  refine WF_g h (fun j hj => ?_) ?_ (fun j hj _ => e j (by omega) (by omega))
  · rw [e j (by omega) (by omega)]; exact h.1.1 j hj
  · have q := h.1.2.2.2.2.1
    unfold wfG isC at q ⊢
    rcases (by omega : u = 0 ∨ u = 1) with r | r <;> subst r
    · refine ⟨?_, ?_⟩
      · rw [show ((96 : Int) + 0).toNat = 96 from rfl, uz_same]; omega
      · rw [uz_ne _ _ (by decide)]; exact q.2
    · refine ⟨?_, ?_⟩
      · rw [uz_ne _ _ (by decide)]; exact q.1
      · rw [show ((96 : Int) + 1).toNat = 97 from rfl, uz_same]; omega
/-- the field while a rectangle is written, up to the cell p -/
def shP (z : Row) (A B h p : Int) : Row × Int := shZ z A B h (if p ≤ B then p - A else B + 1 - A).toNat
theorem shP_s {z : Row} {A B h p : Int} (h0 : 0 ≤ A ∧ A ≤ B) : shP z A B h (p + 1) = if (A ≤ p ∧ p ≤ B) ∧ (A % 12 ≤ p % 12 ∧ p % 12 ≤ B % 12) then (uz (shP z A B h p).1 p.toNat h, (shP z A B h p).2 + (if (shP z A B h p).1 p.toNat = h then 0 else 1)) else shP z A B h p := by
  unfold shP
  by_cases a : A ≤ p ∧ p ≤ B
  · rw [if_pos a.2]
    have e : (if p + 1 ≤ B then p + 1 - A else B + 1 - A).toNat = (p - A).toNat + 1 := by split <;> omega
    have e2 : A + (((p - A).toNat : Nat) : Int) = p := by omega
    rw [e, shZ_s, e2]
    by_cases q : A % 12 ≤ p % 12 ∧ p % 12 ≤ B % 12
    · rw [if_pos q, if_pos (show ((A ≤ p ∧ p ≤ B) ∧ (A % 12 ≤ p % 12 ∧ p % 12 ≤ B % 12)) from ⟨a, q⟩)]
    · rw [if_neg q, if_neg (show ¬ ((A ≤ p ∧ p ≤ B) ∧ (A % 12 ≤ p % 12 ∧ p % 12 ≤ B % 12)) from fun w => q w.2)]
  · rw [if_neg (show ¬ ((A ≤ p ∧ p ≤ B) ∧ (A % 12 ≤ p % 12 ∧ p % 12 ≤ B % 12)) from fun w => a w.1)]
    have e : (if p + 1 ≤ B then p + 1 - A else B + 1 - A).toNat = (if p ≤ B then p - A else B + 1 - A).toNat := by
      split <;> split <;> omega
    rw [e]
theorem shP_0 {z : Row} {A B h p : Int} (h0 : 0 ≤ A ∧ A ≤ B) (hp : p ≤ A) : shP z A B h p = (z, 0) := by
  unfold shP
  have e : (if p ≤ B then p - A else B + 1 - A).toNat = 0 := by split <;> omega
  rw [e]
  rfl
theorem shP_z {z : Row} {A B h p : Int} (hp : B < p) : shP z A B h p = shZ z A B h (B - A + 1).toNat := by
  unfold shP
  rw [if_neg (by omega), show B + 1 - A = B - A + 1 by omega]
/-- from one of the law's cells to the next -/
theorem shP_n {z : Row} {a b h c : Int} (ha : is8 a) (hb : is8 b) (hab : a % 8 ≤ b % 8 ∧ a / 8 ≤ b / 8) (hc : is8 c) : shP z (bg a) (bg b) h (bg (c + 1)) = if (a % 8 ≤ c % 8 ∧ c % 8 ≤ b % 8) ∧ (a / 8 ≤ c / 8 ∧ c / 8 ≤ b / 8) then (uz (shP z (bg a) (bg b) h (bg c)).1 (bg c).toNat h, (shP z (bg a) (bg b) h (bg c)).2 + (if (shP z (bg a) (bg b) h (bg c)).1 (bg c).toNat = h then 0 else 1)) else shP z (bg a) (bg b) h (bg c) := by
  have ma : bg a % 12 = a % 8 := by unfold bg; omega
  have mb : bg b % 12 = b % 8 := by unfold bg; omega
  have mc : bg c % 12 = c % 8 := by unfold bg; omega
  have da : bg a / 12 = a / 8 := by unfold bg; omega
  have db : bg b / 12 = b / 8 := by unfold bg; omega
  have dc : bg c / 12 = c / 8 := by unfold bg; omega
  have hA : 0 ≤ bg a ∧ bg a ≤ bg b := by unfold is8 bg at *; omega
  have h1 : shP z (bg a) (bg b) h (bg (c + 1)) = shP z (bg a) (bg b) h (bg c + 1) := by
    by_cases q : c % 8 = 7
    · have e : bg (c + 1) = bg c + 1 + 1 + 1 + 1 + 1 := by unfold bg; omega
      rw [e, shP_s hA, if_neg (by omega), shP_s hA, if_neg (by omega), shP_s hA, if_neg (by omega), shP_s hA, if_neg (by omega)]
    · have e : bg (c + 1) = bg c + 1 := by unfold bg; omega
      rw [e]
  rw [h1, shP_s hA]
  generalize bg a = A at *
  generalize bg b = B at *
  generalize bg c = C at *
  by_cases q : (a % 8 ≤ c % 8 ∧ c % 8 ≤ b % 8) ∧ (a / 8 ≤ c / 8 ∧ c / 8 ≤ b / 8)
  · rw [if_pos q, if_pos ⟨⟨by omega, by omega⟩, by omega, by omega⟩]
  · rw [if_neg q, if_neg (fun w => q (by omega))]
theorem EH_w {he y : Row} (h : EH he y) {c v : Int} (hc : is8 c) (hv : 0 ≤ v ∧ v ≤ 6) : EH (uz he c.toNat v) (uz y (bg c).toNat v) := by
  obtain ⟨h1, h2⟩ := h
  refine ⟨fun k hk => ?_, fun j hj hj8 => ?_⟩
  · by_cases e : k = c
    · subst e
      rw [uz_same, uz_same]
      exact ⟨rfl, hv⟩
    · have e1 : k.toNat ≠ c.toNat := by unfold is8 at *; omega
      have e2 : (bg k).toNat ≠ (bg c).toNat := fun q => e (bg_inj hk hc (by have := bg_in hk; have := bg_in hc; unfold inL at *; omega))
      rw [uz_ne _ _ e1, uz_ne _ _ e2]
      exact h1 k hk
  · have := bg_in hc
    unfold inL at this
    rw [uz_ne _ _ (by omega)]
    exact h2 j hj hj8
theorem LZ_he {J K : Nat → Nat → Int} {z y : Row} (h : LZ J 362 363 364 z) (hE : EH (K 361) y) (hj : K 362 = J 362 ∧ K 363 = J 363 ∧ K 364 = J 364) (e : ∀ i : Nat, 96 ≤ i → y i = z i) : LZ K 362 363 364 y := by
  obtain ⟨h1, h2, h3, h4, h5, h6⟩ := h
  refine ⟨hE, ?_, ?_, ?_, by rw [e 98 (by decide)]; exact h5, by rw [e 195 (by decide)]; exact h6⟩
  · rw [hj.1]; exact ET_of h2 (by omega) (e 98 (by decide)) (fun l g _ _ => e _ (by omega))
  · rw [hj.2.1]; exact EO_of h3 (by omega) (e 195 (by decide)) (fun j a b => e j (by omega))
  · rw [hj.2.2]; exact ED_of h4 (fun j hj => e j (by omega))
/-- a general is moved -/
theorem LZ_gen {J : Nat → Nat → Int} {z : Row} (h : LZ J 362 363 364 z) {s w : Int} (hs : 0 ≤ s ∧ s ≤ 1) (hw : is8 w) : LZ (u2 J 364 (7 + s).toNat w) 362 363 364 (uz z (96 + s).toNat (bg w)) := by
  obtain ⟨h1, h2, h3, h4, h5, h6⟩ := h
  refine ⟨?_, ?_, ?_, ?_, ?_, ?_⟩
  · rw [u2_off _ _ _ (by decide)]; exact EH_of h1 (fun j hj => uz_ne _ _ (by omega))
  · rw [u2_off _ _ _ (by decide)]; exact ET_of h2 (by omega) (uz_ne _ _ (by omega)) (fun l g _ _ => uz_ne _ _ (by omega))
  · rw [u2_off _ _ _ (by decide)]; exact EO_of h3 (by omega) (uz_ne _ _ (by omega)) (fun j a b => uz_ne _ _ (by omega))
  · rw [u2_at]
    obtain ⟨⟨a0, a1, a2, a3, a4, a5, a6⟩, ⟨b1, b2⟩, c1, c2⟩ := h4
    have hb := bg_in hw
    unfold ED
    rw [uz_ne _ _ (show (0 : Nat) ≠ (7 + s).toNat by omega), uz_ne _ _ (show (1 : Nat) ≠ (7 + s).toNat by omega), uz_ne _ _ (show (2 : Nat) ≠ (7 + s).toNat by omega), uz_ne _ _ (show (3 : Nat) ≠ (7 + s).toNat by omega), uz_ne _ _ (show (4 : Nat) ≠ (7 + s).toNat by omega), uz_ne _ _ (show (5 : Nat) ≠ (7 + s).toNat by omega), uz_ne _ _ (show (6 : Nat) ≠ (7 + s).toNat by omega), uz_ne _ _ (show (316 : Nat) ≠ (96 + s).toNat by omega), uz_ne _ _ (show (98 : Nat) ≠ (96 + s).toNat by omega), uz_ne _ _ (show (195 : Nat) ≠ (96 + s).toNat by omega), uz_ne _ _ (show (317 : Nat) ≠ (96 + s).toNat by omega), uz_ne _ _ (show (318 : Nat) ≠ (96 + s).toNat by omega), uz_ne _ _ (show (319 : Nat) ≠ (96 + s).toNat by omega), uz_ne _ _ (show (320 : Nat) ≠ (96 + s).toNat by omega)]
    refine ⟨⟨a0, a1, a2, a3, a4, a5, a6⟩, ?_⟩
    rcases (by omega : s = 0 ∨ s = 1) with q | q <;> subst q
    · rw [show ((7 : Int) + 0).toNat = 7 from rfl, show ((96 : Int) + 0).toNat = 96 from rfl, uz_same, uz_same, uz_ne _ _ (by decide), uz_ne _ _ (by decide)]
      exact ⟨⟨(sm_bg hw).symm, b2⟩, hb, c2⟩
    · rw [show ((7 : Int) + 1).toNat = 8 from rfl, show ((96 : Int) + 1).toNat = 97 from rfl, uz_same, uz_same, uz_ne _ _ (by decide), uz_ne _ _ (by decide)]
      exact ⟨⟨b1, (sm_bg hw).symm⟩, c1, hb⟩
  · rw [uz_ne _ _ (by omega)]; exact h5
  · rw [uz_ne _ _ (by omega)]; exact h6
/-- a troop more -/
theorem LZ_ad {J K : Nat → Nat → Int} {z : Row} (hn0 : 0 ≤ z 98) (h : LZ J 362 363 364 z) (h5 : z 98 ≤ 5) {s c v : Int} (hc : is8 c) (j1 : K 361 = J 361) (j3 : K 363 = J 363) (k1 : K 364 1 = z 98 + 1) (kd : ∀ i : Nat, i ≠ 1 → K 364 i = J 364 i) (jt : ∀ i : Nat, i < 8 * (z 98).toNat → K 362 i = J 362 i) (t0 : K 362 (8 * (z 98).toNat) = s) (t1 : K 362 (8 * (z 98).toNat + 1) = c) (t2 : K 362 (8 * (z 98).toNat + 2) = v) (t3 : K 362 (8 * (z 98).toNat + 3) = c) (t4 : K 362 (8 * (z 98).toNat + 4) = 0) (t5 : K 362 (8 * (z 98).toNat + 5) = v) (t6 : K 362 (8 * (z 98).toNat + 6) = 0) (t7 : K 362 (8 * (z 98).toNat + 7) = 0) : LZ K 362 363 364 (adZ z (z 98).toNat s (bg c) v) := by
  obtain ⟨h1, h2, h3, h4, _, h6⟩ := h
  have off : ∀ j : Nat, j < 98 ∨ 195 ≤ j → adZ z (z 98).toNat s (bg c) v j = z j := fun j hj => adZ_off (by omega) (by omega)
  have h98 : adZ z (z 98).toNat s (bg c) v 98 = z 98 + 1 := adZ_98
  refine ⟨?_, ?_, ?_, ?_, by rw [h98]; omega, by rw [off 195 (by decide)]; exact h6⟩
  · rw [j1]; exact EH_of h1 (fun j hj => off j (by omega))
  · have ht := ET_iff.mp h2
    refine ET_iff.mpr (fun k k0 k1 => ?_)
    rw [h98] at k1
    by_cases e : k = z 98
    · subst e
      obtain ⟨n0, n1, n2, n3, n4, n5, n6, n7⟩ := adZ_n (z := z) (n := (z 98).toNat) (s := s) (c := bg c) (v := v)
      refine ⟨fun f hf => ?_, by rw [n1]; exact bg_in hc, by rw [n3]; exact bg_in hc⟩
      rcases (by omega : f = 0 ∨ f = 1 ∨ f = 2 ∨ f = 3 ∨ f = 4 ∨ f = 5 ∨ f = 6 ∨ f = 7) with q | q | q | q | q | q | q | q <;> subst q
      · rw [n0]; exact t0
      · rw [n1, t1]; exact (sm_bg hc).symm
      · rw [n2]; exact t2
      · rw [n3, t3]; exact (sm_bg hc).symm
      · rw [n4]; exact t4
      · rw [n5]; exact t5
      · rw [n6]; exact t6
      · rw [n7]; exact t7
    · obtain ⟨a, b, d⟩ := ht k k0 (by omega)
      have et : ∀ g : Nat, g < 8 → tf (adZ z (z 98).toNat s (bg c) v) k.toNat g = tf z k.toNat g := fun g hg => adZ_t (by omega) hg
      refine ⟨fun f hf => ?_, by rw [et 1 (by decide)]; exact b, by rw [et 3 (by decide)]; exact d⟩
      rw [jt _ (by omega), et f hf]
      exact a f hf
  · rw [j3]; exact EO_of h3 (by omega) (off 195 (by decide)) (fun j a b => off j (by omega))
  · obtain ⟨⟨a0, a1, a2, a3, a4, a5, a6⟩, ⟨b1, b2⟩, c1, c2⟩ := h4
    unfold ED
    rw [k1, kd 0 (by decide), kd 2 (by decide), kd 3 (by decide), kd 4 (by decide), kd 5 (by decide), kd 6 (by decide), kd 7 (by decide), kd 8 (by decide), h98, off 316 (by decide), off 195 (by decide), off 317 (by decide), off 318 (by decide), off 319 (by decide), off 320 (by decide), off 96 (by decide), off 97 (by decide)]
    exact ⟨⟨a0, rfl, a2, a3, a4, a5, a6⟩, ⟨b1, b2⟩, c1, c2⟩
/-- an order more -/
theorem LZ_gi {J K : Nat → Nat → Int} {z : Row} (h : LZ J 362 363 364 z) (hm : 0 ≤ z 195 ∧ z 195 ≤ 11) {k g : Int} (hg : is8 g) (j1 : K 361 = J 361) (j2 : K 362 = J 362) (d2 : K 364 2 = z 195 + 1) (d3 : K 364 3 = z 317 + 1) (kd : ∀ i : Nat, i ≠ 2 → i ≠ 3 → K 364 i = J 364 i) (jo : ∀ i : Nat, i < 4 * (z 195).toNat → K 363 i = J 363 i) (o0 : K 363 (4 * (z 195).toNat) = z 317) (o1 : K 363 (4 * (z 195).toNat + 1) = k) (o2 : K 363 (4 * (z 195).toNat + 2) = g) (o3 : K 363 (4 * (z 195).toNat + 3) = z 316 + ordG z k.toNat) : LZ K 362 363 364 (giveZ z k (bg g)) := by
  obtain ⟨h1, h2, h3, h4, h5, _⟩ := h
  obtain ⟨g1, g2, g3, g4, g5⟩ := giveZ_at (z := z) k (bg g) ⟨hm.1, by omega⟩
  refine ⟨?_, ?_, ?_, ?_, by rw [g1 98 (by omega)]; exact h5, by rw [g2]; omega⟩
  · rw [j1]; exact EH_of h1 (fun j hj => g1 j (by omega))
  · rw [j2]; exact ET_of h2 (by omega) (g1 98 (by omega)) (fun l g a b => g1 _ (by omega))
  · intro l l0 l1
    rw [g2] at l1
    by_cases e : l = z 195
    · subst e
      simp only [od, Prod.mk.injEq] at g5
      obtain ⟨q0, q1, q2, q3⟩ := g5
      refine ⟨fun f hf => ?_, by rw [q2]; exact bg_in hg⟩
      rcases (by omega : f = 0 ∨ f = 1 ∨ f = 2 ∨ f = 3) with q | q | q | q <;> subst q
      · exact o0.trans q0.symm
      · rw [q1]; exact o1
      · rw [q2, o2]; exact (sm_bg hg).symm
      · rw [q3]; exact o3
    · obtain ⟨a, b⟩ := h3 l l0 (by omega)
      refine ⟨fun f hf => ?_, by rw [g4 _ (by omega) (by omega)]; exact b⟩
      rw [jo _ (by omega), g4 _ (by omega) (by omega)]
      exact a f hf
  · obtain ⟨⟨a0, a1, a2, a3, a4, a5, a6⟩, ⟨b1, b2⟩, c1, c2⟩ := h4
    unfold ED
    rw [d2, d3, kd 0 (by decide) (by decide), kd 1 (by decide) (by decide), kd 4 (by decide) (by decide), kd 5 (by decide) (by decide), kd 6 (by decide) (by decide), kd 7 (by decide) (by decide), kd 8 (by decide) (by decide), g2, g3, g1 316 (by omega), g1 98 (by omega), g1 318 (by omega), g1 319 (by omega), g1 320 (by omega), g1 96 (by omega), g1 97 (by omega)]
    exact ⟨⟨a0, a1, rfl, rfl, a4, a5, a6⟩, ⟨b1, b2⟩, c1, c2⟩
theorem LV_of {I J : Nat → Nat → Int} {R : Nat → Nat → Option Nat} {z : Row} {nv : Int} {zs : Nat → Row} (h1 : RK R) (h2 : CS J R z nv zs) (h3 : WF z) (h4 : z 316 ≤ 1000) (h5 : z 317 ≤ 80000) (h6 : LZ J 362 363 364 z) : LV 0 I J R z nv zs := ⟨⟨h1, h2, ⟨h3, h4, h5⟩, h6⟩, fun _ _ h => absurd h (Nat.not_lt_zero _)⟩
theorem LV_any {N M : Nat} {I J : Nat → Nat → Int} {R : Nat → Nat → Option Nat} {z : Row} {nv : Int} {zs : Nat → Row} (h : LV N I J R z nv zs) : LV M J J R z nv zs := ⟨h.1, fun _ _ _ => rfl⟩
theorem svN_1 {n : Int} (h : 1 ≤ n) : 1 ≤ svN n := by
  unfold svN
  split <;> omega
