/-! ===== the law's rows and the whole field's row: what a write does to both ===== -/
def cv (f : Nat) (v : Int) : Int := if f = 1 ∨ f = 3 then s8 v else v
theorem n8 {P : Nat → Prop} (h : P 0 ∧ P 1 ∧ P 2 ∧ P 3 ∧ P 4 ∧ P 5 ∧ P 6 ∧ P 7) : ∀ f : Nat, f < 8 → P f := fun f hf => by
  match f, hf with
  | 0, _ => exact h.1
  | 1, _ => exact h.2.1
  | 2, _ => exact h.2.2.1
  | 3, _ => exact h.2.2.2.1
  | 4, _ => exact h.2.2.2.2.1
  | 5, _ => exact h.2.2.2.2.2.1
  | 6, _ => exact h.2.2.2.2.2.2.1
  | 7, _ => exact h.2.2.2.2.2.2.2
theorem ET_iff {tr z : Row} : ET tr z ↔ ∀ k : Int, 0 ≤ k → k < z 98 → (∀ f : Nat, f < 8 → tr (8 * k.toNat + f) = cv f (tf z k.toNat f)) ∧ inL (tf z k.toNat 1) ∧ inL (tf z k.toNat 3) := by
  have ix : ∀ k : Int, 0 ≤ k → (8 * k).toNat = 8 * k.toNat + 0 ∧ (8 * k + 1).toNat = 8 * k.toNat + 1 ∧ (8 * k + 2).toNat = 8 * k.toNat + 2 ∧ (8 * k + 3).toNat = 8 * k.toNat + 3 ∧ (8 * k + 4).toNat = 8 * k.toNat + 4 ∧ (8 * k + 5).toNat = 8 * k.toNat + 5 ∧ (8 * k + 6).toNat = 8 * k.toNat + 6 ∧ (8 * k + 7).toNat = 8 * k.toNat + 7 := fun k hk => by omega
  constructor
  · intro h k h0 h1
    obtain ⟨i0, i1, i2, i3, i4, i5, i6, i7⟩ := ix k h0
    obtain ⟨⟨a0, a1, a2, a3, a4, a5, a6, a7⟩, b⟩ := h k h0 h1
    rw [i0] at a0; rw [i1] at a1; rw [i2] at a2; rw [i3] at a3; rw [i4] at a4; rw [i5] at a5; rw [i6] at a6; rw [i7] at a7
    exact ⟨n8 ⟨a0, a1, a2, a3, a4, a5, a6, a7⟩, b⟩
  · intro h k h0 h1
    obtain ⟨i0, i1, i2, i3, i4, i5, i6, i7⟩ := ix k h0
    obtain ⟨a, b⟩ := h k h0 h1
    refine ⟨⟨?_, ?_, ?_, ?_, ?_, ?_, ?_, ?_⟩, b⟩
    · rw [i0]; exact a 0 (by decide)
    · rw [i1]; exact a 1 (by decide)
    · rw [i2]; exact a 2 (by decide)
    · rw [i3]; exact a 3 (by decide)
    · rw [i4]; exact a 4 (by decide)
    · rw [i5]; exact a 5 (by decide)
    · rw [i6]; exact a 6 (by decide)
    · rw [i7]; exact a 7 (by decide)
def co (f : Nat) (v : Int) : Int := if f = 2 then s8 v else v
def EO (or z : Row) : Prop := ∀ k : Int, 0 ≤ k → k < z 195 → (∀ f : Nat, f < 4 → or (4 * k.toNat + f) = co f (z (196 + 4 * k.toNat + f))) ∧ inL (z (196 + 4 * k.toNat + 2))
theorem EO.e0 {or z : Row} (h : EO or z) {k : Int} (h0 : 0 ≤ k) (h1 : k < z 195) : or (4 * k).toNat = z (196 + 4 * k.toNat) := by
  rw [show (4 * k).toNat = 4 * k.toNat + 0 by omega]; exact (h k h0 h1).1 0 (by decide)
theorem EO.e1 {or z : Row} (h : EO or z) {k : Int} (h0 : 0 ≤ k) (h1 : k < z 195) : or (4 * k + 1).toNat = z (196 + 4 * k.toNat + 1) := by
  rw [show (4 * k + 1).toNat = 4 * k.toNat + 1 by omega]; exact (h k h0 h1).1 1 (by decide)
theorem EO.e2 {or z : Row} (h : EO or z) {k : Int} (h0 : 0 ≤ k) (h1 : k < z 195) : or (4 * k + 2).toNat = s8 (z (196 + 4 * k.toNat + 2)) := by
  rw [show (4 * k + 2).toNat = 4 * k.toNat + 2 by omega]; exact (h k h0 h1).1 2 (by decide)
theorem EO.e3 {or z : Row} (h : EO or z) {k : Int} (h0 : 0 ≤ k) (h1 : k < z 195) : or (4 * k + 3).toNat = z (196 + 4 * k.toNat + 3) := by
  rw [show (4 * k + 3).toNat = 4 * k.toNat + 3 by omega]; exact (h k h0 h1).1 3 (by decide)
theorem EO.g {or z : Row} (h : EO or z) {k : Int} (h0 : 0 ≤ k) (h1 : k < z 195) : inL (z (196 + 4 * k.toNat + 2)) := (h k h0 h1).2
theorem EH_of {he y z : Row} (h : EH he z) (e : ∀ j : Nat, j < 96 → y j = z j) : EH he y := by
  refine ⟨fun c hc => ?_, fun j hj h8 => by rw [e j hj]; exact h.2 j hj h8⟩
  have := bg_C hc
  unfold isC at this
  rw [e _ (by omega)]
  exact h.1 c hc
theorem ET_of {tr y z : Row} (h : ET tr z) (hn : z 98 ≤ 12) (e98 : y 98 = z 98) (e : ∀ l g : Nat, l < 12 → g < 8 → tf y l g = tf z l g) : ET tr y := by
  rw [ET_iff] at h ⊢
  intro k h0 h1
  rw [e98] at h1
  obtain ⟨a, b, c⟩ := h k h0 h1
  refine ⟨fun f hf => by rw [e _ _ (by omega) hf]; exact a f hf, by rw [e _ _ (by omega) (by decide)]; exact b, by rw [e _ _ (by omega) (by decide)]; exact c⟩
theorem EO_of {or y z : Row} (h : EO or z) (ho : z 195 ≤ 30) (e195 : y 195 = z 195) (e : ∀ j : Nat, 196 ≤ j → j < 316 → y j = z j) : EO or y := by
  intro k h0 h1
  rw [e195] at h1
  obtain ⟨a, b⟩ := h k h0 h1
  refine ⟨fun f hf => by rw [e _ (by omega) (by omega)]; exact a f hf, by rw [e _ (by omega) (by omega)]; exact b⟩
theorem ED_of {d y z : Row} (h : ED d z) (e : ∀ j : Nat, j = 96 ∨ j = 97 ∨ j = 98 ∨ j = 195 ∨ 316 ≤ j → y j = z j) : ED d y := by
  obtain ⟨⟨a0, a1, a2, a3, a4, a5, a6⟩, ⟨b1, b2⟩, c1, c2⟩ := h
  unfold ED
  rw [e 316 (by omega), e 98 (by omega), e 195 (by omega), e 317 (by omega), e 318 (by omega), e 319 (by omega), e 320 (by omega), e 96 (by omega), e 97 (by omega)]
  exact ⟨⟨a0, a1, a2, a3, a4, a5, a6⟩, ⟨b1, b2⟩, c1, c2⟩
/-- the law's four rows read as z -/
def LZ (J : Nat → Nat → Int) (aT aO aD : Nat) (z : Row) : Prop := EH (J 361) z ∧ ET (J aT) z ∧ EO (J aO) z ∧ ED (J aD) z ∧ z 98 ≤ 6 ∧ z 195 ≤ 12
/-- where they lie -/
def LA (aT aO aD : Nat) : Prop := (361 < aT ∧ 361 < aO ∧ 361 < aD) ∧ aT ≠ aO ∧ aT ≠ aD ∧ aO ≠ aD
def LH (S : List (Nat × Nat)) (aT aO aD : Nat) : Prop := S[361]? = some (20, 64) ∧ S[aT]? = some (20, 48) ∧ S[aO]? = some (20, 48) ∧ S[aD]? = some (20, 9)
theorem LZ.h {J : Nat → Nat → Int} {aT aO aD : Nat} {z : Row} (h : LZ J aT aO aD z) : EH (J 361) z := h.1
theorem LZ.t {J : Nat → Nat → Int} {aT aO aD : Nat} {z : Row} (h : LZ J aT aO aD z) : ET (J aT) z := h.2.1
theorem LZ.o {J : Nat → Nat → Int} {aT aO aD : Nat} {z : Row} (h : LZ J aT aO aD z) : EO (J aO) z := h.2.2.1
theorem LZ.d {J : Nat → Nat → Int} {aT aO aD : Nat} {z : Row} (h : LZ J aT aO aD z) : ED (J aD) z := h.2.2.2.1
theorem LZ.n {J : Nat → Nat → Int} {aT aO aD : Nat} {z : Row} (h : LZ J aT aO aD z) : z 98 ≤ 6 := h.2.2.2.2.1
theorem LZ.m {J : Nat → Nat → Int} {aT aO aD : Nat} {z : Row} (h : LZ J aT aO aD z) : z 195 ≤ 12 := h.2.2.2.2.2
theorem LZ_off {J K : Nat → Nat → Int} {aT aO aD : Nat} {z : Row} (h : LZ J aT aO aD z) (e : ∀ a : Nat, a = 361 ∨ a = aT ∨ a = aO ∨ a = aD → K a = J a) : LZ K aT aO aD z := by
  unfold LZ
  rw [e 361 (Or.inl rfl), e aT (Or.inr (Or.inl rfl)), e aO (Or.inr (Or.inr (Or.inl rfl))), e aD (Or.inr (Or.inr (Or.inr rfl)))]
  exact h
theorem LZ_ext {J : Nat → Nat → Int} {aT aO aD : Nat} {y z : Row} (h : LZ J aT aO aD z) (e : ∀ j : Nat, j < 321 → y j = z j) : LZ J aT aO aD y := by
  obtain ⟨h1, h2, h3, h4, h5, h6⟩ := h
  refine ⟨EH_of h1 (fun j hj => e j (by omega)), ET_of h2 (by omega) (e 98 (by decide)) (fun l g hl hg => e _ (by omega)), EO_of h3 (by omega) (e 195 (by decide)) (fun j a b => e j (by omega)), ?_, by rw [e 98 (by decide)]; exact h5, by rw [e 195 (by decide)]; exact h6⟩
  obtain ⟨⟨a0, a1, a2, a3, a4, a5, a6⟩, ⟨b1, b2⟩, c1, c2⟩ := h4
  unfold ED
  rw [e 316 (by decide), e 98 (by decide), e 195 (by decide), e 317 (by decide), e 318 (by decide), e 319 (by decide), e 320 (by decide), e 96 (by decide), e 97 (by decide)]
  exact ⟨⟨a0, a1, a2, a3, a4, a5, a6⟩, ⟨b1, b2⟩, c1, c2⟩
/-- a troop's figure -/
theorem ET_w {tr z : Row} (h : ET tr z) {k : Int} (hk : 0 ≤ k) {f i : Nat} (hf : f < 8) (hi : i = 8 * k.toNat + f) {v w : Int} (hv : v = cv f w) (hw : f = 1 ∨ f = 3 → inL w) : ET (uz tr i v) (uz z (99 + 8 * k.toNat + f) w) := by
  rw [ET_iff] at h ⊢
  intro l h0 h1
  rw [uz_ne _ _ (by omega)] at h1
  obtain ⟨a, b, c⟩ := h l h0 h1
  have key : ∀ g : Nat, g < 8 → tf (uz z (99 + 8 * k.toNat + f) w) l.toNat g = if l.toNat = k.toNat ∧ g = f then w else tf z l.toNat g := fun g hg => tf_uz hf hg
  refine ⟨fun g hg => ?_, ?_, ?_⟩
  · rw [key g hg]
    by_cases e : l.toNat = k.toNat ∧ g = f
    · rw [if_pos e, hi, show 8 * l.toNat + g = 8 * k.toNat + f by omega, uz_same, hv, e.2]
    · rw [if_neg e, uz_ne _ _ (by rw [hi]; omega)]
      exact a g hg
  · rw [key 1 (by decide)]
    split
    · rename_i e; exact hw (Or.inl e.2.symm)
    · exact b
  · rw [key 3 (by decide)]
    split
    · rename_i e; exact hw (Or.inr e.2.symm)
    · exact c
theorem LZ_w {J : Nat → Nat → Int} {aT aO aD : Nat} {z : Row} (hA : LA aT aO aD) (h : LZ J aT aO aD z) {k : Int} (hk : 0 ≤ k ∧ k < z 98) {f i : Nat} (hf : f < 8) (hi : i = 8 * k.toNat + f) {v w : Int} (hv : v = cv f w) (hw : f = 1 ∨ f = 3 → inL w) : LZ (u2 J aT i v) aT aO aD (uz z (99 + 8 * k.toNat + f) w) := by
  obtain ⟨h1, h2, h3, h4, h5, h6⟩ := h
  unfold LA at hA
  refine ⟨?_, ?_, ?_, ?_, ?_, ?_⟩
  · rw [u2_off _ _ _ (by omega)]; exact EH_of h1 (fun j hj => uz_ne _ _ (by omega))
  · rw [u2_at]; exact ET_w h2 hk.1 hf hi hv hw
  · rw [u2_off _ _ _ (by omega)]; exact EO_of h3 (by omega) (uz_ne _ _ (by omega)) (fun j a b => uz_ne _ _ (by omega))
  · rw [u2_off _ _ _ (by omega)]; exact ED_of h4 (fun j hj => uz_ne _ _ (by omega))
  · rw [uz_ne _ _ (by omega)]; exact h5
  · rw [uz_ne _ _ (by omega)]; exact h6
theorem LZ_wn {J : Nat → Nat → Int} {aT aO aD : Nat} {z : Row} (hA : LA aT aO aD) (h : LZ J aT aO aD z) {k : Int} (hk : 0 ≤ k ∧ k < z 98) (f : Nat) {i : Nat} (hf : f < 8 ∧ f ≠ 1 ∧ f ≠ 3) (hi : i = 8 * k.toNat + f) (v : Int) : LZ (u2 J aT i v) aT aO aD (uz z (99 + 8 * k.toNat + f) v) :=
  LZ_w hA h hk hf.1 hi (by unfold cv; rw [if_neg (by omega)]) (fun q => by omega)
theorem LZ_wc {J : Nat → Nat → Int} {aT aO aD : Nat} {z : Row} (hA : LA aT aO aD) (h : LZ J aT aO aD z) {k : Int} (hk : 0 ≤ k ∧ k < z 98) (f : Nat) {i : Nat} (hf : f = 1 ∨ f = 3) (hi : i = 8 * k.toNat + f) {w : Int} (hw : inL w) : LZ (u2 J aT i (s8 w)) aT aO aD (uz z (99 + 8 * k.toNat + f) w) :=
  LZ_w hA h hk (by omega) hi (by unfold cv; rw [if_pos hf]) (fun _ => hw)
/-- a count -/
theorem LZ_d {J : Nat → Nat → Int} {aT aO aD : Nat} {z : Row} (hA : LA aT aO aD) (h : LZ J aT aO aD z) {i j : Nat} (hij : (i = 0 ∧ j = 316) ∨ (i = 3 ∧ j = 317) ∨ (i = 4 ∧ j = 318) ∨ (i = 5 ∧ j = 319) ∨ (i = 6 ∧ j = 320)) (v : Int) : LZ (u2 J aD i v) aT aO aD (uz z j v) := by
  obtain ⟨h1, h2, h3, h4, h5, h6⟩ := h
  unfold LA at hA
  refine ⟨?_, ?_, ?_, ?_, ?_, ?_⟩
  · rw [u2_off _ _ _ (by omega)]; exact EH_of h1 (fun k hk => uz_ne _ _ (by omega))
  · rw [u2_off _ _ _ (by omega)]; exact ET_of h2 (by omega) (uz_ne _ _ (by omega)) (fun l g hl hg => uz_ne _ _ (by omega))
  · rw [u2_off _ _ _ (by omega)]; exact EO_of h3 (by omega) (uz_ne _ _ (by omega)) (fun k a b => uz_ne _ _ (by omega))
  · rw [u2_at]
    obtain ⟨⟨a0, a1, a2, a3, a4, a5, a6⟩, ⟨b1, b2⟩, c1, c2⟩ := h4
    have e : ∀ p q : Nat, (p = i ↔ q = j) → J aD p = z q → uz (J aD) i v p = uz z j v q := fun p q e1 e2 => by
      unfold uz
      by_cases c : p = i
      · rw [if_pos c, if_pos (e1.mp c)]
      · rw [if_neg c, if_neg (fun w => c (e1.mpr w))]; exact e2
    refine ⟨⟨e _ _ (by omega) a0, e _ _ (by omega) a1, e _ _ (by omega) a2, e _ _ (by omega) a3, e _ _ (by omega) a4, e _ _ (by omega) a5, e _ _ (by omega) a6⟩, ⟨?_, ?_⟩, ?_, ?_⟩
    · rw [uz_ne _ _ (by omega), uz_ne _ _ (by omega)]; exact b1
    · rw [uz_ne _ _ (by omega), uz_ne _ _ (by omega)]; exact b2
    · rw [uz_ne _ _ (by omega)]; exact c1
    · rw [uz_ne _ _ (by omega)]; exact c2
  · rw [uz_ne _ _ (by omega)]; exact h5
  · rw [uz_ne _ _ (by omega)]; exact h6
/-- fewer orders -/
theorem LZ_d2 {J : Nat → Nat → Int} {aT aO aD : Nat} {z : Row} (hA : LA aT aO aD) (h : LZ J aT aO aD z) {v : Int} (hv : v ≤ z 195) : LZ (u2 J aD 2 v) aT aO aD (uz z 195 v) := by
  obtain ⟨h1, h2, h3, h4, h5, h6⟩ := h
  unfold LA at hA
  refine ⟨?_, ?_, ?_, ?_, ?_, ?_⟩
  · rw [u2_off _ _ _ (by omega)]; exact EH_of h1 (fun k hk => uz_ne _ _ (by omega))
  · rw [u2_off _ _ _ (by omega)]; exact ET_of h2 (by omega) (uz_ne _ _ (by omega)) (fun l g hl hg => uz_ne _ _ (by omega))
  · rw [u2_off _ _ _ (by omega)]
    intro k h0 hk
    rw [uz_same] at hk
    obtain ⟨a, b⟩ := h3 k h0 (by omega)
    exact ⟨fun f hf => by rw [uz_ne _ _ (by omega)]; exact a f hf, by rw [uz_ne _ _ (by omega)]; exact b⟩
  · rw [u2_at]
    obtain ⟨⟨a0, a1, a2, a3, a4, a5, a6⟩, ⟨b1, b2⟩, c1, c2⟩ := h4
    unfold ED
    rw [uz_same, uz_same]
    repeat rw [uz_ne _ _ (by decide)]
    exact ⟨⟨a0, a1, rfl, a3, a4, a5, a6⟩, ⟨b1, b2⟩, c1, c2⟩
  · rw [uz_ne _ _ (by omega)]; exact h5
  · rw [uz_same]; omega
/-- an order's figure from order to order -/
theorem LZ_cp {J : Nat → Nat → Int} {aT aO aD : Nat} {z : Row} (hA : LA aT aO aD) (h : LZ J aT aO aD z) {k l : Int} (hk : 0 ≤ k ∧ k < z 195) (hl : 0 ≤ l ∧ l < z 195) {f i j : Nat} (hf : f < 4) (hi : i = 4 * l.toNat + f) (hj : j = 4 * k.toNat + f) : LZ (u2 J aO i (J aO j)) aT aO aD (uz z (196 + 4 * l.toNat + f) (z (196 + 4 * k.toNat + f))) := by
  obtain ⟨h1, h2, h3, h4, h5, h6⟩ := h
  unfold LA at hA
  refine ⟨?_, ?_, ?_, ?_, ?_, ?_⟩
  · rw [u2_off _ _ _ (by omega)]; exact EH_of h1 (fun k hk => uz_ne _ _ (by omega))
  · rw [u2_off _ _ _ (by omega)]; exact ET_of h2 (by omega) (uz_ne _ _ (by omega)) (fun l g hl hg => uz_ne _ _ (by omega))
  · rw [u2_at]
    obtain ⟨a, b⟩ := h3 k hk.1 hk.2
    intro m h0 hm
    rw [uz_ne _ _ (by omega)] at hm
    obtain ⟨a2, b2⟩ := h3 m h0 hm
    refine ⟨fun g hg => ?_, ?_⟩
    · by_cases e : m.toNat = l.toNat ∧ g = f
      · rw [show 4 * m.toNat + g = i by omega, show 196 + 4 * m.toNat + g = 196 + 4 * l.toNat + f by omega, uz_same, uz_same, hj, e.2]
        exact a f hf
      · rw [uz_ne _ _ (by omega), uz_ne _ _ (by omega)]
        exact a2 g hg
    · by_cases e : m.toNat = l.toNat ∧ 2 = f
      · rw [show 196 + 4 * m.toNat + 2 = 196 + 4 * l.toNat + f by omega, uz_same, ← e.2]
        exact b
      · rw [uz_ne _ _ (by omega)]
        exact b2
  · rw [u2_off _ _ _ (by omega)]; exact ED_of h4 (fun j hj => uz_ne _ _ (by omega))
  · rw [uz_ne _ _ (by omega)]; exact h5
  · rw [uz_ne _ _ (by omega)]; exact h6
/-! ===== what a troop loses: by troops, not by neighbours ===== -/
theorem nb8_adj {a b : Int} (ha : is8 a) (hb : is8 b) : (∃ w : Int, 0 ≤ w ∧ w < 4 ∧ nb (bg a) w = bg b) ↔ ab (a % 8 - b % 8) + ab (a / 8 - b / 8) = 1 := by
  have ha2 := ha
  have hb2 := hb
  unfold is8 at ha2 hb2
  constructor
  · rintro ⟨w, w0, w1, h⟩
    have h2 : nb8 a w = b := by
      rcases nb8_nb ha ⟨w0, w1⟩ with ⟨q1, q2⟩ | ⟨q1, q2⟩
      · have := bg_in hb
        unfold inL at this
        rcases q2 with q2 | q2 <;> omega
      · exact bg_inj q1 hb (q2.symm.trans h)
    rw [← h2]
    rcases (by omega : w = 0 ∨ w = 1 ∨ w = 2 ∨ w = 3) with q | q | q | q <;> subst q <;> unfold nb8 at h2 <;> unfold nb8 ab <;> (repeat' split at h2) <;> (repeat' split) <;> omega
  · intro h
    have key : ∃ w : Int, 0 ≤ w ∧ w < 4 ∧ nb8 a w = b := by
      unfold ab at h
      by_cases q0 : b = a - 8
      · exact ⟨0, by decide, by decide, by unfold nb8; rw [if_pos rfl, if_neg (by omega)]; omega⟩
      · by_cases q1 : b = a + 1
        · refine ⟨1, by decide, by decide, ?_⟩
          unfold nb8
          rw [if_neg (by decide), if_pos rfl, if_neg (by split at h <;> split at h <;> omega)]
          omega
        · by_cases q2 : b = a + 8
          · refine ⟨2, by decide, by decide, ?_⟩
            unfold nb8
            rw [if_neg (by decide), if_neg (by decide), if_pos rfl, if_neg (by omega)]
            omega
          · have q3 : b = a - 1 := by split at h <;> split at h <;> omega
            refine ⟨3, by decide, by decide, ?_⟩
            unfold nb8
            rw [if_neg (by decide), if_neg (by decide), if_neg (by decide), if_neg (by split at h <;> split at h <;> omega)]
            omega
    obtain ⟨w, w0, w1, h2⟩ := key
    refine ⟨w, w0, w1, ?_⟩
    rcases nb8_nb ha ⟨w0, w1⟩ with ⟨p1, _⟩ | ⟨_, p2⟩
    · omega
    · rw [p2, h2]
/-- what the troops before n do to the troop k -/
def lfN (z : Row) (k : Nat) : Nat → Int := sumN (fun j => if tf z j 4 ≠ 2 ∧ tf z j 0 ≠ tf z k 0 ∧ ab (s8 (tf z k 1) % 8 - s8 (tf z j 1) % 8) + ab (s8 (tf z k 1) / 8 - s8 (tf z j 1) / 8) = 1 then (if z (tf z k 1).toNat < z (tf z j 1).toNat then 2 else 1) else 0)
/-- one neighbour's share, of the troops before n -/
def lnW (z : Row) (k n : Nat) (w : Int) : Int := if nb (tf z k 1) w ≠ -1 ∧ tA z (nb (tf z k 1) w) n ≠ -1 ∧ tf z (tA z (nb (tf z k 1) w) n).toNat 0 ≠ tf z k 0 then (if z (tf z k 1).toNat < z (nb (tf z k 1) w).toNat then 2 else 1) else 0
theorem nb_val (c : Int) {w : Int} (hw : 0 ≤ w ∧ w < 4) : nb c w = -1 ∨ nb c w = c + (if w = 0 then -12 else if w = 1 then 1 else if w = 2 then 12 else -1) := by
  unfold nb
  rcases (by omega : w = 0 ∨ w = 1 ∨ w = 2 ∨ w = 3) with q | q | q | q <;> subst q <;> (repeat' split) <;> omega
theorem nb_w {c a b : Int} (ha : 0 ≤ a ∧ a < 4) (hb : 0 ≤ b ∧ b < 4) (h : nb c a = nb c b) (hn : nb c a ≠ -1) : a = b := by
  have h1 := (nb_val c ha).resolve_left hn
  have h2 := (nb_val c hb).resolve_left (by rw [← h]; exact hn)
  rw [h1, h2] at h
  repeat' split at h
  all_goals omega
theorem lnW_0 (z : Row) (k : Nat) (w : Int) : lnW z k 0 w = 0 := by
  unfold lnW
  rw [if_neg]
  rintro ⟨_, q, _⟩
  exact q rfl
theorem lnW_s {z : Row} (hu : wfU z) {k n : Nat} (hn : (n : Int) < z 98) (w : Int) : lnW z k (n + 1) w = lnW z k n w + (if tf z n 4 ≠ 2 ∧ nb (tf z k 1) w = tf z n 1 ∧ nb (tf z k 1) w ≠ -1 ∧ tf z n 0 ≠ tf z k 0 then (if z (tf z k 1).toNat < z (tf z n 1).toNat then 2 else 1) else 0) := by
  have ht : tA z (nb (tf z k 1) w) (n + 1) = if tf z n 4 ≠ 2 ∧ tf z n 1 = nb (tf z k 1) w then (n : Int) else tA z (nb (tf z k 1) w) n := rfl
  unfold lnW
  rw [ht]
  by_cases e : tf z n 4 ≠ 2 ∧ tf z n 1 = nb (tf z k 1) w
  · rw [if_pos e]
    have h0 : tA z (nb (tf z k 1) w) n = -1 := tA_none.mpr (fun l hl q => by
      have := hu l n (by omega) hn q.1 e.1 (q.2.trans e.2.symm)
      omega)
    rw [h0, if_neg (c := nb (tf z k 1) w ≠ -1 ∧ (-1 : Int) ≠ -1 ∧ _) (fun q => q.2.1 rfl), Int.toNat_natCast, e.2]
    by_cases c : nb (tf z k 1) w ≠ -1 ∧ tf z n 0 ≠ tf z k 0
    · have p1 : nb (tf z k 1) w ≠ -1 ∧ (n : Int) ≠ -1 ∧ tf z n 0 ≠ tf z k 0 := ⟨c.1, by omega, c.2⟩
      have p2 : tf z n 4 ≠ 2 ∧ nb (tf z k 1) w = nb (tf z k 1) w ∧ nb (tf z k 1) w ≠ -1 ∧ tf z n 0 ≠ tf z k 0 := ⟨e.1, rfl, c.1, c.2⟩
      rw [if_pos p1, if_pos p2]
      exact (Int.zero_add _).symm
    · rw [if_neg (fun q => c ⟨q.1, q.2.2⟩), if_neg (fun q => c ⟨q.2.2.1, q.2.2.2⟩)]; rfl
  · rw [if_neg e, if_neg (c := tf z n 4 ≠ 2 ∧ _) (fun q => e ⟨q.1, q.2.1.symm⟩)]
    omega
theorem lf_is {z : Row} (hu : wfU z) (ht : ∀ k : Nat, (k : Int) < z 98 → inL (tf z k 1)) {k : Nat} (hk : (k : Int) < z 98) : ∀ n : Nat, (n : Int) ≤ z 98 → lfN z k n = lnW z k n 0 + lnW z k n 1 + lnW z k n 2 + lnW z k n 3 := by
  intro n
  induction n with
  | zero => intro _; rw [lnW_0, lnW_0, lnW_0, lnW_0]; rfl
  | succ n ih =>
    intro hn
    have hn1 : (n : Int) < z 98 := by omega
    rw [lnW_s hu hn1, lnW_s hu hn1, lnW_s hu hn1, lnW_s hu hn1]
    unfold lfN
    rw [sumN_s]
    have ih := ih (by omega)
    unfold lfN at ih
    rw [ih]
    have ha := sm_in (ht k hk)
    have hb := sm_in (ht n hn1)
    have hadj := nb8_adj ha hb
    rw [bg_sm (ht k hk), bg_sm (ht n hn1)] at hadj
    have hnC := (ht n hn1).1
    by_cases e : tf z n 4 ≠ 2 ∧ tf z n 0 ≠ tf z k 0
    · by_cases q : ab (s8 (tf z k 1) % 8 - s8 (tf z n 1) % 8) + ab (s8 (tf z k 1) / 8 - s8 (tf z n 1) / 8) = 1
      · rw [if_pos ⟨e.1, e.2, q⟩]
        obtain ⟨w, w0, w1, hw⟩ := hadj.mpr q
        have hne : ∀ u : Int, 0 ≤ u → u < 4 → u ≠ w → ¬ (tf z n 4 ≠ 2 ∧ nb (tf z k 1) u = tf z n 1 ∧ nb (tf z k 1) u ≠ -1 ∧ tf z n 0 ≠ tf z k 0) := fun u u0 u1 un p => un (nb_w ⟨u0, u1⟩ ⟨w0, w1⟩ (p.2.1.trans hw.symm) p.2.2.1)
        have hpo : tf z n 4 ≠ 2 ∧ nb (tf z k 1) w = tf z n 1 ∧ nb (tf z k 1) w ≠ -1 ∧ tf z n 0 ≠ tf z k 0 := ⟨e.1, hw, by rw [hw]; omega, e.2⟩
        rcases (by omega : w = 0 ∨ w = 1 ∨ w = 2 ∨ w = 3) with p | p | p | p <;> subst p
        · rw [if_pos hpo, if_neg (hne 1 (by decide) (by decide) (by decide)), if_neg (hne 2 (by decide) (by decide) (by decide)), if_neg (hne 3 (by decide) (by decide) (by decide))]; omega
        · rw [if_neg (hne 0 (by decide) (by decide) (by decide)), if_pos hpo, if_neg (hne 2 (by decide) (by decide) (by decide)), if_neg (hne 3 (by decide) (by decide) (by decide))]; omega
        · rw [if_neg (hne 0 (by decide) (by decide) (by decide)), if_neg (hne 1 (by decide) (by decide) (by decide)), if_pos hpo, if_neg (hne 3 (by decide) (by decide) (by decide))]; omega
        · rw [if_neg (hne 0 (by decide) (by decide) (by decide)), if_neg (hne 1 (by decide) (by decide) (by decide)), if_neg (hne 2 (by decide) (by decide) (by decide)), if_pos hpo]; omega
      · have hno : ∀ u : Int, 0 ≤ u → u < 4 → ¬ (tf z n 4 ≠ 2 ∧ nb (tf z k 1) u = tf z n 1 ∧ nb (tf z k 1) u ≠ -1 ∧ tf z n 0 ≠ tf z k 0) := fun u u0 u1 p => q (hadj.mp ⟨u, u0, u1, p.2.1⟩)
        rw [if_neg (fun p => q p.2.2), if_neg (hno 0 (by decide) (by decide)), if_neg (hno 1 (by decide) (by decide)), if_neg (hno 2 (by decide) (by decide)), if_neg (hno 3 (by decide) (by decide))]
        omega
    · have hno : ∀ u : Int, ¬ (tf z n 4 ≠ 2 ∧ nb (tf z k 1) u = tf z n 1 ∧ nb (tf z k 1) u ≠ -1 ∧ tf z n 0 ≠ tf z k 0) := fun u p => e ⟨p.1, p.2.2.2⟩
      rw [if_neg (fun p => e ⟨p.1, p.2.1⟩), if_neg (hno 0), if_neg (hno 1), if_neg (hno 2), if_neg (hno 3)]
      omega
theorem ls_is (z : Row) (k : Nat) : lsN z k 4 = lnW z k (z 98).toNat 0 + lnW z k (z 98).toNat 1 + lnW z k (z 98).toNat 2 + lnW z k (z 98).toNat 3 := by
  show 0 + lnW z k (z 98).toNat ((0 : Nat) : Int) + lnW z k (z 98).toNat ((1 : Nat) : Int) + lnW z k (z 98).toNat ((2 : Nat) : Int) + lnW z k (z 98).toNat ((3 : Nat) : Int) = _
  rw [Int.zero_add]
  rfl
theorem lf_ls {z : Row} (hb : wfB z) (ht : ∀ k : Nat, (k : Int) < z 98 → inL (tf z k 1)) {k : Nat} (hk : (k : Int) < z 98) : lfN z k (z 98).toNat = lsN z k 4 := by
  rw [ls_is, lf_is hb.2.2.2.1 ht hk _ (by omega)]
theorem lfN_b (z : Row) (k n : Nat) : 0 ≤ lfN z k n ∧ lfN z k n ≤ 2 * n := sumN_b n (fun j _ => by
  repeat' split
  all_goals omega)
theorem lfN_s (z : Row) (k n : Nat) : lfN z k (n + 1) = lfN z k n + (if tf z n 4 ≠ 2 ∧ tf z n 0 ≠ tf z k 0 ∧ ab (s8 (tf z k 1) % 8 - s8 (tf z n 1) % 8) + ab (s8 (tf z k 1) / 8 - s8 (tf z n 1) / 8) = 1 then (if z (tf z k 1).toNat < z (tf z n 1).toNat then 2 else 1) else 0) := rfl
