/-! ===== the law's field: eight columns at the left of a cliff ===== -/
def bg (c : Int) : Int := 12 * (c / 8) + c % 8
def s8 (v : Int) : Int := 8 * (v / 12) + v % 12
def is8 (c : Int) : Prop := 0 ≤ c ∧ c < 64
def inL (v : Int) : Prop := 0 ≤ v ∧ v < 96 ∧ v % 12 < 8
theorem bg_in {c : Int} (h : is8 c) : inL (bg c) := by unfold is8 at h; unfold inL bg; omega
theorem sm_in {v : Int} (h : inL v) : is8 (s8 v) := by unfold inL at h; unfold is8 s8; omega
theorem bg_sm {v : Int} (h : inL v) : bg (s8 v) = v := by unfold inL at h; unfold bg s8; omega
theorem sm_bg {c : Int} (h : is8 c) : s8 (bg c) = c := by unfold is8 at h; unfold bg s8; omega
theorem inL_C {v : Int} (h : inL v) : isC v := ⟨h.1, h.2.1⟩
theorem bg_C {c : Int} (h : is8 c) : isC (bg c) := inL_C (bg_in h)
theorem bg_inj {a b : Int} (ha : is8 a) (hb : is8 b) (h : bg a = bg b) : a = b := by rw [← sm_bg ha, ← sm_bg hb, h]
theorem bg_d {c : Int} (h : is8 c) : bg c / 12 = c / 8 ∧ bg c % 12 = c % 8 := by unfold is8 at h; unfold bg; omega
/-- heights: low at the left, a cliff at the right -/
def EH (he z : Row) : Prop := (∀ c : Int, is8 c → he c.toNat = z (bg c).toNat ∧ 0 ≤ he c.toNat ∧ he c.toNat ≤ 6) ∧ ∀ j : Nat, j < 96 → 8 ≤ j % 12 → z j = 9
def nb8 (c w : Int) : Int := if w = 0 then (if c < 8 then -1 else c - 8) else if w = 1 then (if c % 8 = 7 then -1 else c + 1) else if w = 2 then (if 55 < c then -1 else c + 8) else (if c % 8 = 0 then -1 else c - 1)
theorem nb8_nb {c w : Int} (hc : is8 c) (hw : 0 ≤ w ∧ w < 4) : (nb8 c w = -1 ∧ (nb (bg c) w = -1 ∨ (0 ≤ nb (bg c) w ∧ nb (bg c) w < 96 ∧ 8 ≤ nb (bg c) w % 12))) ∨ (is8 (nb8 c w) ∧ nb (bg c) w = bg (nb8 c w)) := by
  unfold is8 at *
  unfold nb8 nb bg
  rcases (by omega : w = 0 ∨ w = 1 ∨ w = 2 ∨ w = 3) with q | q | q | q <;> subst q <;> (repeat' split) <;> omega
/-- one can step so in both fields -/
def sp8 (z : Row) (c w r : Int) : Prop := (r = -1 ∧ stT z (bg c) w = -1) ∨ (is8 r ∧ stT z (bg c) w = bg r)
theorem sp8_of {he z : Row} (hE : EH he z) {c w : Int} (hc : is8 c) (hw : 0 ≤ w ∧ w < 4) : (nb8 c w = -1 → sp8 z c w (-1)) ∧ (nb8 c w ≠ -1 → is8 (nb8 c w) ∧ (ab (he (nb8 c w).toNat - he c.toNat) < 3 → sp8 z c w (nb8 c w)) ∧ (¬ ab (he (nb8 c w).toNat - he c.toNat) < 3 → sp8 z c w (-1))) := by
  have hz := hE.1 c hc
  rcases nb8_nb hc hw with ⟨h1, h2⟩ | ⟨h1, h2⟩
  · refine ⟨fun _ => Or.inl ⟨rfl, ?_⟩, fun q => absurd h1 q⟩
    unfold stT
    rw [if_neg]
    rintro ⟨q1, q2⟩
    rcases h2 with h2 | ⟨a1, a2, a3⟩
    · exact q1 h2
    · have h9 := hE.2 (nb (bg c) w).toNat (by omega) (by omega)
      unfold clm at q2
      omega
  · have hn : nb8 c w ≠ -1 := by have := h1.1; omega
    have hz2 := hE.1 _ h1
    have hb := (bg_in h1).1
    refine ⟨fun q => absurd q hn, fun _ => ⟨h1, fun q => Or.inr ⟨h1, ?_⟩, fun q => Or.inl ⟨rfl, ?_⟩⟩⟩
    · unfold stT
      rw [h2, if_pos]
      refine ⟨by omega, ?_⟩
      unfold ab at q
      unfold clm
      split at q <;> omega
    · unfold stT
      rw [h2, if_neg]
      rintro ⟨q1, q2⟩
      apply q
      unfold ab
      unfold clm at q2
      split <;> omega
theorem sp8_uniq {z : Row} {c w r q : Int} (h1 : sp8 z c w r) (h2 : sp8 z c w q) : r = q := by
  rcases h1 with ⟨a, b⟩ | ⟨a, b⟩ <;> rcases h2 with ⟨e, f⟩ | ⟨e, f⟩
  · omega
  · have := (bg_in e).1; omega
  · have := (bg_in a).1; omega
  · exact bg_inj a e (b.symm.trans f)
theorem sp8_ne {z : Row} {c w r : Int} (h : sp8 z c w r) (hn : r ≠ -1) : is8 r ∧ stT z (bg c) w = bg r := h.resolve_left (fun q => hn q.1)
theorem sp8_b {z : Row} {c w r : Int} (h : sp8 z c w r) : -1 ≤ r ∧ r < 64 := by
  rcases h with ⟨a, b⟩ | ⟨a, b⟩
  · omega
  · unfold is8 at a; omega
/-- and back -/
theorem stT_back {z : Row} {p t w : Int} (hp : isC p) (hw : 0 ≤ w ∧ w < 4) (h : stT z p w = t) (ht : t ≠ -1) : stT z t ((w + 2) % 4) = p := by
  have h0 : nb p w ≠ -1 ∧ clm z p (nb p w) := by
    unfold stT at h
    split at h
    · assumption
    · exact absurd h.symm ht
  have h1 : t = nb p w := by
    unfold stT at h
    rw [if_pos h0] at h
    exact h.symm
  have h2 := nb_back hp hw h0.1
  unfold stT
  rw [h1, h2, if_pos]
  refine ⟨?_, clm_symm h0.2⟩
  unfold isC at hp; omega
/-! ===== how far: less and less ===== -/
def spI (z : Row) (op : Int → Bool) (s : Int) (f : Row) : Prop := (∀ c : Int, is8 c → f c.toNat = 999 ∨ (0 ≤ f c.toNat ∧ f c.toNat < 999 ∧ wk z op (bg s) (f c.toNat).toNat (bg c))) ∧ f s.toNat = 0
def fxC (z : Row) (op : Int → Bool) (f : Row) (c w : Int) : Prop := ∀ r : Int, sp8 z c w r → r ≠ -1 → op (bg c) = true → f c.toNat ≤ f r.toNat + 1
theorem spI_b {z : Row} {op : Int → Bool} {s : Int} {f : Row} (h : spI z op s f) {c : Int} (hc : is8 c) : 0 ≤ f c.toNat ∧ f c.toNat ≤ 999 := by
  rcases h.1 c hc with q | q <;> omega
theorem spI_step {z : Row} {op : Int → Bool} {s : Int} {f : Row} (h : spI z op s f) (hs : is8 s) {c w r : Int} (hc : is8 c) (hw : 0 ≤ w ∧ w < 4) (h8 : sp8 z c w r) (hr : r ≠ -1) (ho : op (bg c) = true) (hl : f r.toNat + 1 < f c.toNat) : spI z op s (uz f c.toNat (f r.toNat + 1)) := by
  obtain ⟨r8, hst⟩ := sp8_ne h8 hr
  have hrb := h.1 r r8
  have hcb := spI_b h hc
  have hcs : c.toNat ≠ s.toNat := fun e => by
    rw [e, h.2] at hl
    have := spI_b h r8
    omega
  refine ⟨fun t ht => ?_, by rw [uz_ne _ _ (Ne.symm hcs)]; exact h.2⟩
  by_cases e : t.toNat = c.toNat
  · have e2 : t = c := by unfold is8 at ht hc; omega
    rw [e, uz_same, e2]
    rcases hrb with q | ⟨q1, q2, q3⟩
    · omega
    · refine Or.inr ⟨by omega, by omega, ?_⟩
      rw [show (f r.toNat + 1).toNat = (f r.toNat).toNat + 1 by omega]
      have hb := stT_back (bg_C hc) hw hst (by have := (bg_in r8).1; omega)
      exact ⟨bg r, q3, bg_C r8, (w + 2) % 4, by omega, by omega, hb, by have := (bg_in hc).1; omega, ho⟩
  · rw [uz_ne _ _ e]
    exact h.1 t ht
theorem sp_end {z : Row} {op : Int → Bool} {s : Int} {f : Row} (he : ∃ he : Row, EH he z) (h : spI z op s f) (hs : is8 s) (hf : ∀ c w : Int, is8 c → 0 ≤ w → w < 4 → fxC z op f c w) : ∀ c : Int, is8 c → f c.toNat = (if dF z op (bg s) (bg c).toNat = -1 then 999 else dF z op (bg s) (bg c).toNat) := by
  obtain ⟨he, hE⟩ := he
  have hw : ∀ (n : Nat) (t : Int), wk z op (bg s) n t → ∃ c : Int, is8 c ∧ t = bg c ∧ f c.toNat ≤ n := by
    intro n
    induction n with
    | zero => intro t ht; exact ⟨s, hs, ht, by rw [h.2]; exact Int.le_refl _⟩
    | succ n ih =>
      rintro t ⟨p, hp, hpc, w, w0, w1, hst, ht, ho⟩
      obtain ⟨p8, hp8, rfl, hfp⟩ := ih p hp
      have h1 := sp8_of hE hp8 ⟨w0, w1⟩
      have h8 : ∃ r : Int, sp8 z p8 w r := by
        by_cases q : nb8 p8 w = -1
        · exact ⟨_, h1.1 q⟩
        · by_cases q2 : ab (he (nb8 p8 w).toNat - he p8.toNat) < 3
          · exact ⟨_, (h1.2 q).2.1 q2⟩
          · exact ⟨_, (h1.2 q).2.2 q2⟩
      obtain ⟨r, hr⟩ := h8
      rcases hr with ⟨_, hr⟩ | ⟨r8, hr⟩
      · exact absurd (hst.symm.trans hr) ht
      · have et : t = bg r := hst.symm.trans hr
        subst et
        refine ⟨r, r8, rfl, ?_⟩
        have hb := stT_back (bg_C hp8) ⟨w0, w1⟩ hst ht
        have := hf r ((w + 2) % 4) r8 (by omega) (by omega) p8 (Or.inr ⟨hp8, hb⟩) (by unfold is8 at hp8; omega) ho
        omega
  intro c hc
  have hd := dF_sp (z := z) (op := op) (bg_C hs) (bg c) (bg_C hc)
  generalize dF z op (bg s) (bg c).toNat = v at hd ⊢
  rcases hd with ⟨d1, d2⟩ | ⟨d1, d2, d3, d4⟩
  · rw [if_pos d1]
    rcases h.1 c hc with q | ⟨_, _, q⟩
    · exact q
    · exact absurd q (d2 _)
  · rw [if_neg (by omega)]
    obtain ⟨c2, hc2, e, hle⟩ := hw _ _ d3
    have := bg_inj hc hc2 e
    subst this
    rcases h.1 c hc with q | ⟨q1, q2, q⟩
    · omega
    · have := d4 _ q
      omega
theorem sumN_uz {f : Row} {k : Nat} {v : Int} : ∀ n : Nat, sumN (uz f k v) n = sumN f n + (if k < n then v - f k else 0) := by
  intro n
  induction n with
  | zero => rw [if_neg (Nat.not_lt_zero _)]; rfl
  | succ n ih =>
    rw [sumN_s, sumN_s, ih]
    by_cases e : n = k
    · rw [e, uz_same, if_neg (Nat.lt_irrefl _), if_pos (Nat.lt_succ_self _)]; omega
    · rw [uz_ne _ _ e]
      by_cases q : k < n
      · rw [if_pos q, if_pos (by omega)]; omega
      · rw [if_neg q, if_neg (by omega)]; omega
/-! ===== sight ===== -/
theorem pt_sh {n a d k : Int} (hn : 1 ≤ n) : pt n a d k = a + (2 * k * d + n) / (2 * n) := by
  unfold pt
  have e : 2 * (n * a + k * d) + n = (2 * k * d + n) + a * (2 * n) := by
    rw [Int.mul_add, Int.mul_left_comm a 2 n, Int.mul_comm a n, Int.mul_assoc 2 k d]; omega
  rw [e, Int.add_mul_ediv_right _ _ (by omega)]
  omega
theorem nn8 {a b : Int} (ha : is8 a) (hb : is8 b) : nn (bg a) (bg b) = (if ab (b / 8 - a / 8) < ab (b % 8 - a % 8) then ab (b % 8 - a % 8) else ab (b / 8 - a / 8)) := by
  unfold nn
  rw [(bg_d ha).1, (bg_d ha).2, (bg_d hb).1, (bg_d hb).2]
theorem nn8_b {a b : Int} (ha : is8 a) (hb : is8 b) : 0 ≤ nn (bg a) (bg b) ∧ nn (bg a) (bg b) ≤ 7 := by
  rw [nn8 ha hb]
  unfold is8 at *
  unfold ab
  repeat' split
  all_goals omega
/-- the k-th cell between -/
def bt8 (a b k : Int) : Int := 8 * (a / 8 + (2 * k * (b / 8 - a / 8) + nn (bg a) (bg b)) / (2 * nn (bg a) (bg b))) + a % 8 + (2 * k * (b % 8 - a % 8) + nn (bg a) (bg b)) / (2 * nn (bg a) (bg b))
theorem bt8_b {a b k : Int} (ha : is8 a) (hb : is8 b) (hk : 1 ≤ k ∧ k < nn (bg a) (bg b)) :
    (0 ≤ a / 8 + (2 * k * (b / 8 - a / 8) + nn (bg a) (bg b)) / (2 * nn (bg a) (bg b)) ∧ a / 8 + (2 * k * (b / 8 - a / 8) + nn (bg a) (bg b)) / (2 * nn (bg a) (bg b)) ≤ 7) ∧ 0 ≤ a % 8 + (2 * k * (b % 8 - a % 8) + nn (bg a) (bg b)) / (2 * nn (bg a) (bg b)) ∧ a % 8 + (2 * k * (b % 8 - a % 8) + nn (bg a) (bg b)) / (2 * nn (bg a) (bg b)) ≤ 7 := by
  have h1 : 1 ≤ nn (bg a) (bg b) := by omega
  rw [← pt_sh h1, ← pt_sh h1]
  unfold is8 at ha hb
  exact ⟨pt_b h1 (by omega) (by omega) (by omega), pt_b h1 (by omega) (by omega) (by omega)⟩
theorem bt8_in {a b k : Int} (ha : is8 a) (hb : is8 b) (hk : 1 ≤ k ∧ k < nn (bg a) (bg b)) : is8 (bt8 a b k) := by
  have := bt8_b ha hb hk
  unfold is8 bt8
  omega
theorem seeK8 {he z : Row} (hE : EH he z) {a b k : Int} (ha : is8 a) (hb : is8 b) (hk : 1 ≤ k ∧ k < nn (bg a) (bg b)) : seeK z (bg a) (bg b) k ↔ he (bt8 a b k).toNat * nn (bg a) (bg b) ≤ (he a.toNat + 1) * (nn (bg a) (bg b) - k) + (he b.toNat + 1) * k := by
  have h1 : 1 ≤ nn (bg a) (bg b) := by omega
  have hin := bt8_in ha hb hk
  have hbb := bt8_b ha hb hk
  have e : 12 * pt (nn (bg a) (bg b)) (bg a / 12) (bg b / 12 - bg a / 12) k + pt (nn (bg a) (bg b)) (bg a % 12) (bg b % 12 - bg a % 12) k = bg (bt8 a b k) := by
    rw [(bg_d ha).1, (bg_d ha).2, (bg_d hb).1, (bg_d hb).2, pt_sh h1, pt_sh h1]
    unfold bt8
    generalize (2 * k * (b / 8 - a / 8) + nn (bg a) (bg b)) / (2 * nn (bg a) (bg b)) = u at *
    generalize (2 * k * (b % 8 - a % 8) + nn (bg a) (bg b)) / (2 * nn (bg a) (bg b)) = v at *
    unfold bg
    omega
  unfold seeK
  rw [e, (hE.1 _ hin).1, (hE.1 _ ha).1, (hE.1 _ hb).1]
