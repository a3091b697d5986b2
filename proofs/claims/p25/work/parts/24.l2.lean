/-! ===== the law's rows, read as the row of the whole field ===== -/
theorem Qe {Q : amR → amH → Prop} {a b : Int} {h : amH} (hQ : Q (Sum.inl (some (aI a))) h) (e : b = a) : Q (Sum.inl (some (aI b))) h := by
  rw [e]; exact hQ
def ET (tr z : Row) : Prop := ∀ k : Int, 0 ≤ k → k < z 98 → (tr (8 * k).toNat = tf z k.toNat 0 ∧ tr (8 * k + 1).toNat = s8 (tf z k.toNat 1) ∧ tr (8 * k + 2).toNat = tf z k.toNat 2 ∧ tr (8 * k + 3).toNat = s8 (tf z k.toNat 3) ∧ tr (8 * k + 4).toNat = tf z k.toNat 4 ∧ tr (8 * k + 5).toNat = tf z k.toNat 5 ∧ tr (8 * k + 6).toNat = tf z k.toNat 6 ∧ tr (8 * k + 7).toNat = tf z k.toNat 7) ∧ inL (tf z k.toNat 1) ∧ inL (tf z k.toNat 3)
theorem ET.e0 {tr z : Row} (h : ET tr z) {k : Int} (h0 : 0 ≤ k) (h1 : k < z 98) : tr (8 * k).toNat = tf z k.toNat 0 := (h k h0 h1).1.1
theorem ET.e1 {tr z : Row} (h : ET tr z) {k : Int} (h0 : 0 ≤ k) (h1 : k < z 98) : tr (8 * k + 1).toNat = s8 (tf z k.toNat 1) := (h k h0 h1).1.2.1
theorem ET.e2 {tr z : Row} (h : ET tr z) {k : Int} (h0 : 0 ≤ k) (h1 : k < z 98) : tr (8 * k + 2).toNat = tf z k.toNat 2 := (h k h0 h1).1.2.2.1
theorem ET.e3 {tr z : Row} (h : ET tr z) {k : Int} (h0 : 0 ≤ k) (h1 : k < z 98) : tr (8 * k + 3).toNat = s8 (tf z k.toNat 3) := (h k h0 h1).1.2.2.2.1
theorem ET.e4 {tr z : Row} (h : ET tr z) {k : Int} (h0 : 0 ≤ k) (h1 : k < z 98) : tr (8 * k + 4).toNat = tf z k.toNat 4 := (h k h0 h1).1.2.2.2.2.1
theorem ET.e5 {tr z : Row} (h : ET tr z) {k : Int} (h0 : 0 ≤ k) (h1 : k < z 98) : tr (8 * k + 5).toNat = tf z k.toNat 5 := (h k h0 h1).1.2.2.2.2.2.1
theorem ET.e6 {tr z : Row} (h : ET tr z) {k : Int} (h0 : 0 ≤ k) (h1 : k < z 98) : tr (8 * k + 6).toNat = tf z k.toNat 6 := (h k h0 h1).1.2.2.2.2.2.2.1
theorem ET.e7 {tr z : Row} (h : ET tr z) {k : Int} (h0 : 0 ≤ k) (h1 : k < z 98) : tr (8 * k + 7).toNat = tf z k.toNat 7 := (h k h0 h1).1.2.2.2.2.2.2.2
theorem ET.c {tr z : Row} (h : ET tr z) {k : Int} (h0 : 0 ≤ k) (h1 : k < z 98) : inL (tf z k.toNat 1) := (h k h0 h1).2.1
theorem ET.g {tr z : Row} (h : ET tr z) {k : Int} (h0 : 0 ≤ k) (h1 : k < z 98) : inL (tf z k.toNat 3) := (h k h0 h1).2.2
theorem wfB.t {z : Row} (hb : wfB z) {k : Int} (h0 : 0 ≤ k) (h1 : k < z 98) : wfT1 z k.toNat := hb.2.2.1 k.toNat (by omega)
def ED (d z : Row) : Prop := (d 0 = z 316 ∧ d 1 = z 98 ∧ d 2 = z 195 ∧ d 3 = z 317 ∧ d 4 = z 318 ∧ d 5 = z 319 ∧ d 6 = z 320) ∧ (d 7 = s8 (z 96) ∧ d 8 = s8 (z 97)) ∧ inL (z 96) ∧ inL (z 97)
theorem ED.n {d z : Row} (h : ED d z) : d 1 = z 98 := h.1.2.1
theorem ED.gen {d z : Row} (h : ED d z) {s : Int} (hs : 0 ≤ s ∧ s ≤ 1) : d (7 + s).toNat = s8 (z (96 + s).toNat) ∧ inL (z (96 + s).toNat) := by
  rcases (by omega : s = 0 ∨ s = 1) with q | q <;> subst q
  · exact ⟨h.2.1.1, h.2.2.1⟩
  · exact ⟨h.2.1.2, h.2.2.2⟩
def d8 (z : Row) (op : Int → Bool) (s c : Int) : Int := if dF z op (bg s) (bg c).toNat = -1 then 999 else dF z op (bg s) (bg c).toNat
theorem d8_b {z : Row} {op : Int → Bool} {s c : Int} (hs : is8 s) (hc : is8 c) : 0 ≤ d8 z op s c ∧ d8 z op s c ≤ 999 := by
  have := dF_b (z := z) (op := op) (bg_C hs) (bg_C hc)
  unfold d8
  split <;> omega
def spP (S0 : Int) (f : Row) (g : Int) (P : Prop) : Prop := (g = 0 ∧ sumN f 64 ≤ S0 ∧ P) ∨ (g = 1 ∧ sumN f 64 < S0)
/-! ===== the law: who stands there; how far ===== -/
theorem KL_who {G : amG} {I : Nat → Nat → Int} {R : Nat → Nat → Option Nat} {L : Nat → Nat → Int64} {S : List (Nat × Nat)} {x : Nat} {Q : amR → amH → Prop} (hG : amG0 G) {aT aD : Nat} (hT : S[aT]? = some (20, 48)) (hD : S[aD]? = some (20, 9)) {z : Row} (hET : ET (I aT) z) (h1 : I aD 1 = z 98) (hn : z 98 ≤ 6) (hb : wfB z) {v : Int} (hv : is8 v) (hQ : Q (Sum.inl (some (aI (tAt z (bg v))))) (I, R, L, S, x, 0, 0)) :
    ∀ (n : Nat) (j : Int), 0 ≤ j → (z 98 - j < n ∧ j ≤ z 98) → (∀ i : Nat, (i : Int) < j → ¬ (tf z i 4 ≠ 2 ∧ tf z i 1 = bg v)) → X G mL_who Q 2 [some (aI v), some (aR (some aT)), some (aR (some aD)), some (aI j)] [] (I, R, L, S, x, 0, 0) := by
  intro n
  induction n with
  | zero =>
    intros
    exfalso; omega
  | succ n ih =>
    intro j h0 hj hs
    refine B_L_who_2 ?_
    try dsimp only
    try simp (disch := omega) only [h1, hET.e0, hET.e1, hET.e2, hET.e3, hET.e4, hET.e5, hET.e6, hET.e7]
    refine ⟨_, by first | exact hD | exact hT, ⟨by omega, by omega⟩, ?_⟩
    try simp (disch := omega) only [h1, hET.e0, hET.e1, hET.e2, hET.e3, hET.e4, hET.e5, hET.e6, hET.e7]
    refine ⟨fun c6_0 => ?_, fun c6_0 => ?_⟩
    · refine B_L_who_41 ?_
      try dsimp only
      try simp (disch := omega) only [h1, hET.e0, hET.e1, hET.e2, hET.e3, hET.e4, hET.e5, hET.e6, hET.e7]
      first
        | (have e := tA_uniq hb.2.2.2.1 (c := bg v) (n := (z 98).toNat) (k := j.toNat) (by omega) (by omega) (by omega) (by omega)
           exact Qe hQ (by show j = tA z (bg v) (z 98).toNat; rw [e]; omega))
        | exact Qe hQ (tA_none.mpr (fun k hk => hs k (by omega))).symm
    · have hw := hb.t h0 (by omega)
      unfold wfT1 at hw
      have hin := hET.c h0 (by omega)
      have e1 : s8 (tf z j.toNat 1) = v ↔ tf z j.toNat 1 = bg v := ⟨fun q => by rw [← q, bg_sm hin], fun q => by rw [q, sm_bg hv]⟩
      refine ⟨by (refine ⟨?_, ?_⟩ <;> omega), ?_⟩
      refine ⟨by (refine ⟨?_, ?_⟩ <;> omega), ?_⟩
      refine ⟨_, by first | exact hD | exact hT, ⟨by omega, by omega⟩, ?_⟩
      try simp (disch := omega) only [h1, hET.e0, hET.e1, hET.e2, hET.e3, hET.e4, hET.e5, hET.e6, hET.e7]
      refine ⟨fun c18_0 => ?_, fun c18_0 => ?_⟩
      · refine B_L_who_35 ?_
        try dsimp only
        try simp (disch := omega) only [h1, hET.e0, hET.e1, hET.e2, hET.e3, hET.e4, hET.e5, hET.e6, hET.e7]
        refine ⟨by (refine ⟨?_, ?_⟩ <;> omega), ?_⟩
        refine ih (j + 1) (by omega) (by omega) (fun i hi => ?_)
        by_cases e : i = j.toNat
        · subst e; omega
        · exact hs i (by omega)
      · refine ⟨by (refine ⟨?_, ?_⟩ <;> omega), ?_⟩
        refine ⟨by (refine ⟨?_, ?_⟩ <;> omega), ?_⟩
        refine ⟨_, by first | exact hD | exact hT, ⟨by omega, by omega⟩, ?_⟩
        try simp (disch := omega) only [h1, hET.e0, hET.e1, hET.e2, hET.e3, hET.e4, hET.e5, hET.e6, hET.e7]
        refine ⟨fun c30_0 => ?_, fun c30_0 => ?_⟩
        · refine B_L_who_35 ?_
          try dsimp only
          try simp (disch := omega) only [h1, hET.e0, hET.e1, hET.e2, hET.e3, hET.e4, hET.e5, hET.e6, hET.e7]
          refine ⟨by (refine ⟨?_, ?_⟩ <;> omega), ?_⟩
          refine ih (j + 1) (by omega) (by omega) (fun i hi => ?_)
          by_cases e : i = j.toNat
          · subst e; omega
          · exact hs i (by omega)
        · first
            | (have e := tA_uniq hb.2.2.2.1 (c := bg v) (n := (z 98).toNat) (k := j.toNat) (by omega) (by omega) (by omega) (by omega)
               exact Qe hQ (by show j = tA z (bg v) (z 98).toNat; rw [e]; omega))
            | exact Qe hQ (tA_none.mpr (fun k hk => hs k (by omega))).symm
theorem K_who {G : amG} {I : Nat → Nat → Int} {R : Nat → Nat → Option Nat} {L : Nat → Nat → Int64} {S : List (Nat × Nat)} {x c t : Nat} {Q : amR → amH → Prop} (hG : amG0 G) {aT aD : Nat} (hT : S[aT]? = some (20, 48)) (hD : S[aD]? = some (20, 9)) {z : Row} (hET : ET (I aT) z) (h1 : I aD 1 = z 98) (hn : z 98 ≤ 6) (hb : wfB z) {v : Int} (hv : is8 v) (hQ : Q (Sum.inl (some (aI (tAt z (bg v))))) (I, R, L, S, x, 0, 0)) : CT G sL_who [aI v, aR (some aT), aR (some aD)] (I, R, L, S, x, c, t) Q := by
  refine CT_of ok_L_who hG (Nat.le_of_ble_eq_true rfl) ?_
  show X G mL_who Q 0 _ [] (I, R, L, S, x, 0, 0)
  refine B_L_who_0 ?_
  try dsimp only
  try simp (disch := omega) only [h1, hET.e0, hET.e1, hET.e2, hET.e3, hET.e4, hET.e5, hET.e6, hET.e7]
  exact KL_who hG hT hD hET h1 hn hb hv hQ 7 0 (by decide) ⟨by have := hb.2.1.1; omega, hb.2.1.1⟩ (fun i hi => by omega)
theorem KL_spV {G : amG} {I : Nat → Nat → Int} {R : Nat → Nat → Option Nat} {L : Nat → Nat → Int64} {S : List (Nat × Nat)} {x : Nat} {Q : amR → amH → Prop} (hG : amG0 G) (hA : S[361]? = some (20, 64)) {aT aD : Nat} (hT : S[aT]? = some (20, 48)) (hD : S[aD]? = some (20, 9)) {z : Row} (hET : ET (I aT) z) (h1 : I aD 1 = z 98) (hn : z 98 ≤ 6) (hb : wfB z) (hE : EH (I 361) z) {aF : Nat} (hF : S[aF]? = some (20, 64)) (hne : aF ≠ 361 ∧ aF ≠ aT ∧ aF ≠ aD) {s tk : Int} (hs : is8 s) (htk : -1 ≤ tk) {j S0 : Int} (hj : 0 ≤ j ∧ j < 64) (hK : ∀ (f : Row) (g w : Int) (l9 : Option amV), spI z (opM z tk) s f → spP S0 f g (∀ c w : Int, 0 ≤ c → c < j + 1 → 0 ≤ w → w < 4 → fxC z (opM z tk) f c w) → X G mL_spread Q 136 [some (aI s), some (aI tk), some (aR (some aF)), some (aR (some 361)), some (aR (some aT)), some (aR (some aD)), some (aI g), some (aI j), some (aI w), l9] [] (pr I aF f, R, L, S, x, 0, 0)) :
    ∀ (n : Nat) (f : Row) (g w : Int) (l9 : Option amV), 0 ≤ w → (4 - w < n ∧ w ≤ 4) → spI z (opM z tk) s f → spP S0 f g ((∀ c w : Int, 0 ≤ c → c < j → 0 ≤ w → w < 4 → fxC z (opM z tk) f c w) ∧ ∀ u : Int, 0 ≤ u → u < w → fxC z (opM z tk) f j u) → X G mL_spread Q 51 [some (aI s), some (aI tk), some (aR (some aF)), some (aR (some 361)), some (aR (some aT)), some (aR (some aD)), some (aI g), some (aI j), some (aI w), l9] [] (pr I aF f, R, L, S, x, 0, 0) := by
  intro n
  induction n with
  | zero =>
    intros
    exfalso; omega
  | succ n ih =>
    intro f g w l9 h0 hw hf hp
    have hj8 : is8 j := hj
    have hskip : (∀ r : Int, sp8 z j w r → r ≠ -1 → opM z tk (bg j) = true → f j.toNat ≤ f r.toNat + 1) → spP S0 f g ((∀ c w : Int, 0 ≤ c → c < j → 0 ≤ w → w < 4 → fxC z (opM z tk) f c w) ∧ ∀ u : Int, 0 ≤ u → u < w + 1 → fxC z (opM z tk) f j u) := fun q => by
      rcases hp with ⟨p1, p2, p3, p4⟩ | p
      · refine Or.inl ⟨p1, p2, p3, fun u u0 u1 => ?_⟩
        by_cases e : u = w
        · rw [e]; exact q
        · exact p4 u u0 (by omega)
      · exact Or.inr p
    refine B_L_spread_51 ?_
    try dsimp only
    try simp only [pr_at, u2_pr]
    refine ⟨fun c54_0 => ?_, fun c54_0 => ?_⟩
    · exact hK f g w _ hf (by
        rcases hp with ⟨p1, p2, p3, p4⟩ | p
        · refine Or.inl ⟨p1, p2, fun c u c0 c1 u0 u1 => ?_⟩
          by_cases e : c = j
          · rw [e]; exact p4 u u0 (by omega)
          · exact p3 c u c0 (by omega) u0 u1
        · exact Or.inr p)
    · refine ⟨⟨Nat.zero_le _, Nat.zero_le _, Nat.le_of_ble_eq_true rfl⟩, trivial, ?_⟩
      refine K_step hG hA (z := z) (by rw [pr_off _ _ hne.1.symm]; exact hE) hj8 (by omega) (fun r hr => ?_)
      have hrb := sp8_b hr
      refine af_I0 rfl rfl (by decide) ?_
      try dsimp only
      try simp only [pr_at, u2_pr]
      refine B_L_spread_65 ?_
      try dsimp only
      try simp only [pr_at, u2_pr]
      refine ⟨fun c69_1 => ?_, fun c69_1 => ?_⟩
      · refine B_L_spread_130 ?_
        try dsimp only
        try simp only [pr_at, u2_pr]
        refine ⟨by (refine ⟨?_, ?_⟩ <;> omega), ?_⟩
        first
          | exact ih f g (w + 1) _ (by omega) (by omega) hf (hskip (fun q q1 q2 _ => by have := sp8_uniq q1 hr; omega))
          | exact ih f g (w + 1) _ (by omega) (by omega) hf (hskip (fun q q1 q2 _ => by have := sp8_uniq q1 hr; subst this; omega))
          | exact ih f g (w + 1) _ (by omega) (by omega) hf (hskip (fun q q1 q2 q3 => by
              have := of_decide_eq_true q3
              omega))
          | (have hop : opM z tk (bg j) = true := by
               have q9 : -1 ≤ tAt z (bg j) := (tA_lt z (bg j) (z 98).toNat).1
               exact decide_eq_true (by omega)
             refine ih (uz f j.toNat (f r.toNat + 1)) 1 (w + 1) _ (by omega) (by omega) (spI_step hf hs hj8 ⟨by omega, by omega⟩ hr (by omega) hop (by omega)) (Or.inr ⟨rfl, ?_⟩)
             rw [sumN_uz, if_pos (by omega)]
             rcases hp with ⟨p1, p2, p3⟩ | ⟨p1, p2⟩ <;> omega)
      · have r8 := (sp8_ne hr (by omega)).1
        have hfr := spI_b hf r8
        have hfj := spI_b hf hj8
        unfold is8 at r8
        refine ⟨_, hF, ⟨by omega, by omega⟩, ?_⟩
        try simp only [pr_at, u2_pr]
        refine ⟨by (refine ⟨?_, ?_⟩ <;> omega), ?_⟩
        refine ⟨_, hF, ⟨by omega, by omega⟩, ?_⟩
        try simp only [pr_at, u2_pr]
        refine ⟨fun c82_1 => ?_, fun c82_1 => ?_⟩
        · refine B_L_spread_130 ?_
          try dsimp only
          try simp only [pr_at, u2_pr]
          refine ⟨by (refine ⟨?_, ?_⟩ <;> omega), ?_⟩
          first
            | exact ih f g (w + 1) _ (by omega) (by omega) hf (hskip (fun q q1 q2 _ => by have := sp8_uniq q1 hr; omega))
            | exact ih f g (w + 1) _ (by omega) (by omega) hf (hskip (fun q q1 q2 _ => by have := sp8_uniq q1 hr; subst this; omega))
            | exact ih f g (w + 1) _ (by omega) (by omega) hf (hskip (fun q q1 q2 q3 => by
                have := of_decide_eq_true q3
                omega))
            | (have hop : opM z tk (bg j) = true := by
                 have q9 : -1 ≤ tAt z (bg j) := (tA_lt z (bg j) (z 98).toNat).1
                 exact decide_eq_true (by omega)
               refine ih (uz f j.toNat (f r.toNat + 1)) 1 (w + 1) _ (by omega) (by omega) (spI_step hf hs hj8 ⟨by omega, by omega⟩ hr (by omega) hop (by omega)) (Or.inr ⟨rfl, ?_⟩)
               rw [sumN_uz, if_pos (by omega)]
               rcases hp with ⟨p1, p2, p3⟩ | ⟨p1, p2⟩ <;> omega)
        · refine ⟨fun c86_1 => ?_, fun c86_1 => ?_⟩
          · refine B_L_spread_117 ?_
            try dsimp only
            try simp only [pr_at, u2_pr]
            refine ⟨_, hF, ⟨by omega, by omega⟩, ?_⟩
            try simp only [pr_at, u2_pr]
            refine ⟨by (refine ⟨?_, ?_⟩ <;> omega), ?_⟩
            refine ⟨_, hF, ⟨by omega, by omega⟩, ?_⟩
            try simp only [pr_at, u2_pr]
            refine B_L_spread_130 ?_
            try dsimp only
            try simp only [pr_at, u2_pr]
            refine ⟨by (refine ⟨?_, ?_⟩ <;> omega), ?_⟩
            first
              | exact ih f g (w + 1) _ (by omega) (by omega) hf (hskip (fun q q1 q2 _ => by have := sp8_uniq q1 hr; omega))
              | exact ih f g (w + 1) _ (by omega) (by omega) hf (hskip (fun q q1 q2 _ => by have := sp8_uniq q1 hr; subst this; omega))
              | exact ih f g (w + 1) _ (by omega) (by omega) hf (hskip (fun q q1 q2 q3 => by
                  have := of_decide_eq_true q3
                  omega))
              | (have hop : opM z tk (bg j) = true := by
                   have q9 : -1 ≤ tAt z (bg j) := (tA_lt z (bg j) (z 98).toNat).1
                   exact decide_eq_true (by omega)
                 refine ih (uz f j.toNat (f r.toNat + 1)) 1 (w + 1) _ (by omega) (by omega) (spI_step hf hs hj8 ⟨by omega, by omega⟩ hr (by omega) hop (by omega)) (Or.inr ⟨rfl, ?_⟩)
                 rw [sumN_uz, if_pos (by omega)]
                 rcases hp with ⟨p1, p2, p3⟩ | ⟨p1, p2⟩ <;> omega)
          · refine ⟨⟨Nat.zero_le _, Nat.zero_le _, Nat.le_of_ble_eq_true rfl⟩, trivial, ?_⟩
            refine K_who hG hT hD (by rw [pr_off _ _ hne.2.1.symm]; exact hET) (by rw [pr_off _ _ hne.2.2.symm]; exact h1) hn hb hj8 ?_
            refine af_I0 rfl rfl (by decide) ?_
            try dsimp only
            try simp only [pr_at, u2_pr]
            refine B_L_spread_98 ?_
            try dsimp only
            try simp only [pr_at, u2_pr]
            refine ⟨fun c98_2 => ?_, fun c98_2 => ?_⟩
            · refine B_L_spread_117 ?_
              try dsimp only
              try simp only [pr_at, u2_pr]
              refine ⟨_, hF, ⟨by omega, by omega⟩, ?_⟩
              try simp only [pr_at, u2_pr]
              refine ⟨by (refine ⟨?_, ?_⟩ <;> omega), ?_⟩
              refine ⟨_, hF, ⟨by omega, by omega⟩, ?_⟩
              try simp only [pr_at, u2_pr]
              refine B_L_spread_130 ?_
              try dsimp only
              try simp only [pr_at, u2_pr]
              refine ⟨by (refine ⟨?_, ?_⟩ <;> omega), ?_⟩
              first
                | exact ih f g (w + 1) _ (by omega) (by omega) hf (hskip (fun q q1 q2 _ => by have := sp8_uniq q1 hr; omega))
                | exact ih f g (w + 1) _ (by omega) (by omega) hf (hskip (fun q q1 q2 _ => by have := sp8_uniq q1 hr; subst this; omega))
                | exact ih f g (w + 1) _ (by omega) (by omega) hf (hskip (fun q q1 q2 q3 => by
                    have := of_decide_eq_true q3
                    omega))
                | (have hop : opM z tk (bg j) = true := by
                     have q9 : -1 ≤ tAt z (bg j) := (tA_lt z (bg j) (z 98).toNat).1
                     exact decide_eq_true (by omega)
                   refine ih (uz f j.toNat (f r.toNat + 1)) 1 (w + 1) _ (by omega) (by omega) (spI_step hf hs hj8 ⟨by omega, by omega⟩ hr (by omega) hop (by omega)) (Or.inr ⟨rfl, ?_⟩)
                   rw [sumN_uz, if_pos (by omega)]
                   rcases hp with ⟨p1, p2, p3⟩ | ⟨p1, p2⟩ <;> omega)
            · refine ⟨⟨Nat.zero_le _, Nat.zero_le _, Nat.le_of_ble_eq_true rfl⟩, trivial, ?_⟩
              refine K_who hG hT hD (by rw [pr_off _ _ hne.2.1.symm]; exact hET) (by rw [pr_off _ _ hne.2.2.symm]; exact h1) hn hb hj8 ?_
              refine af_I0 rfl rfl (by decide) ?_
              try dsimp only
              try simp only [pr_at, u2_pr]
              refine B_L_spread_110 ?_
              try dsimp only
              try simp only [pr_at, u2_pr]
              refine ⟨fun c111_3 => ?_, fun c111_3 => ?_⟩
              · refine B_L_spread_117 ?_
                try dsimp only
                try simp only [pr_at, u2_pr]
                refine ⟨_, hF, ⟨by omega, by omega⟩, ?_⟩
                try simp only [pr_at, u2_pr]
                refine ⟨by (refine ⟨?_, ?_⟩ <;> omega), ?_⟩
                refine ⟨_, hF, ⟨by omega, by omega⟩, ?_⟩
                try simp only [pr_at, u2_pr]
                refine B_L_spread_130 ?_
                try dsimp only
                try simp only [pr_at, u2_pr]
                refine ⟨by (refine ⟨?_, ?_⟩ <;> omega), ?_⟩
                first
                  | exact ih f g (w + 1) _ (by omega) (by omega) hf (hskip (fun q q1 q2 _ => by have := sp8_uniq q1 hr; omega))
                  | exact ih f g (w + 1) _ (by omega) (by omega) hf (hskip (fun q q1 q2 _ => by have := sp8_uniq q1 hr; subst this; omega))
                  | exact ih f g (w + 1) _ (by omega) (by omega) hf (hskip (fun q q1 q2 q3 => by
                      have := of_decide_eq_true q3
                      omega))
                  | (have hop : opM z tk (bg j) = true := by
                       have q9 : -1 ≤ tAt z (bg j) := (tA_lt z (bg j) (z 98).toNat).1
                       exact decide_eq_true (by omega)
                     refine ih (uz f j.toNat (f r.toNat + 1)) 1 (w + 1) _ (by omega) (by omega) (spI_step hf hs hj8 ⟨by omega, by omega⟩ hr (by omega) hop (by omega)) (Or.inr ⟨rfl, ?_⟩)
                     rw [sumN_uz, if_pos (by omega)]
                     rcases hp with ⟨p1, p2, p3⟩ | ⟨p1, p2⟩ <;> omega)
              · refine B_L_spread_130 ?_
                try dsimp only
                try simp only [pr_at, u2_pr]
                refine ⟨by (refine ⟨?_, ?_⟩ <;> omega), ?_⟩
                first
                  | exact ih f g (w + 1) _ (by omega) (by omega) hf (hskip (fun q q1 q2 _ => by have := sp8_uniq q1 hr; omega))
                  | exact ih f g (w + 1) _ (by omega) (by omega) hf (hskip (fun q q1 q2 _ => by have := sp8_uniq q1 hr; subst this; omega))
                  | exact ih f g (w + 1) _ (by omega) (by omega) hf (hskip (fun q q1 q2 q3 => by
                      have := of_decide_eq_true q3
                      omega))
                  | (have hop : opM z tk (bg j) = true := by
                       have q9 : -1 ≤ tAt z (bg j) := (tA_lt z (bg j) (z 98).toNat).1
                       exact decide_eq_true (by omega)
                     refine ih (uz f j.toNat (f r.toNat + 1)) 1 (w + 1) _ (by omega) (by omega) (spI_step hf hs hj8 ⟨by omega, by omega⟩ hr (by omega) hop (by omega)) (Or.inr ⟨rfl, ?_⟩)
                     rw [sumN_uz, if_pos (by omega)]
                     rcases hp with ⟨p1, p2, p3⟩ | ⟨p1, p2⟩ <;> omega)
theorem KL_spC {G : amG} {I : Nat → Nat → Int} {R : Nat → Nat → Option Nat} {L : Nat → Nat → Int64} {S : List (Nat × Nat)} {x : Nat} {Q : amR → amH → Prop} (hG : amG0 G) (hA : S[361]? = some (20, 64)) {aT aD : Nat} (hT : S[aT]? = some (20, 48)) (hD : S[aD]? = some (20, 9)) {z : Row} (hET : ET (I aT) z) (h1 : I aD 1 = z 98) (hn : z 98 ≤ 6) (hb : wfB z) (hE : EH (I 361) z) {aF : Nat} (hF : S[aF]? = some (20, 64)) (hne : aF ≠ 361 ∧ aF ≠ aT ∧ aF ≠ aD) {s tk : Int} (hs : is8 s) (htk : -1 ≤ tk) {S0 : Int} (hK : ∀ (f : Row) (g : Int) (l7 l8 l9 : Option amV), spI z (opM z tk) s f → spP S0 f g (∀ c w : Int, 0 ≤ c → c < 64 → 0 ≤ w → w < 4 → fxC z (opM z tk) f c w) → X G mL_spread Q 30 [some (aI s), some (aI tk), some (aR (some aF)), some (aR (some 361)), some (aR (some aT)), some (aR (some aD)), some (aI g), l7, l8, l9] [] (pr I aF f, R, L, S, x, 0, 0)) :
    ∀ (n : Nat) (f : Row) (g j : Int) (l8 l9 : Option amV), 0 ≤ j → (64 - j < n ∧ j ≤ 64) → spI z (opM z tk) s f → spP S0 f g (∀ c w : Int, 0 ≤ c → c < j → 0 ≤ w → w < 4 → fxC z (opM z tk) f c w) → X G mL_spread Q 41 [some (aI s), some (aI tk), some (aR (some aF)), some (aR (some 361)), some (aR (some aT)), some (aR (some aD)), some (aI g), some (aI j), l8, l9] [] (pr I aF f, R, L, S, x, 0, 0) := by
  intro n
  induction n with
  | zero =>
    intros
    exfalso; omega
  | succ n ih =>
    intro f g j l8 l9 h0 hj hf hp
    refine B_L_spread_41 ?_
    try dsimp only
    refine ⟨fun c45_0 => ?_, fun c45_0 => ?_⟩
    · refine B_L_spread_142 ?_
      try dsimp only
      have e : j = 64 := by omega
      subst e
      exact hK f g _ _ _ hf hp
    · refine KL_spV hG hA hT hD hET h1 hn hb hE hF hne hs htk (j := j) (S0 := S0) ⟨h0, by omega⟩ (fun f2 g2 w2 l92 hf2 hp2 => ?_) 5 f g 0 _ (by decide) (by omega) hf (by
        rcases hp with ⟨p1, p2, p3⟩ | p
        · exact Or.inl ⟨p1, p2, p3, fun u u0 u1 => by omega⟩
        · exact Or.inr p)
      refine B_L_spread_136 ?_
      try dsimp only
      refine ⟨by (refine ⟨?_, ?_⟩ <;> omega), ?_⟩
      exact ih f2 g2 (j + 1) _ _ (by omega) (by omega) hf2 hp2
theorem KL_spW {G : amG} {I : Nat → Nat → Int} {R : Nat → Nat → Option Nat} {L : Nat → Nat → Int64} {S : List (Nat × Nat)} {x : Nat} {Q : amR → amH → Prop} (hG : amG0 G) (hA : S[361]? = some (20, 64)) {aT aD : Nat} (hT : S[aT]? = some (20, 48)) (hD : S[aD]? = some (20, 9)) {z : Row} (hET : ET (I aT) z) (h1 : I aD 1 = z 98) (hn : z 98 ≤ 6) (hb : wfB z) (hE : EH (I 361) z) {aF : Nat} (hF : S[aF]? = some (20, 64)) (hne : aF ≠ 361 ∧ aF ≠ aT ∧ aF ≠ aD) {s tk : Int} (hs : is8 s) (htk : -1 ≤ tk) (hQ : ∀ f : Row, (∀ c : Int, is8 c → f c.toNat = d8 z (opM z tk) s c) → Q (Sum.inl none) (pr I aF f, R, L, S, x, 0, 0)) :
    ∀ (n : Nat) (f : Row) (g : Int) (l7 l8 l9 : Option amV), spI z (opM z tk) s f → ((g = 0 ∧ 0 < n ∧ ∀ c w : Int, 0 ≤ c → c < 64 → 0 ≤ w → w < 4 → fxC z (opM z tk) f c w) ∨ (g = 1 ∧ 0 < n ∧ sumN f 64 + 1 < n)) → X G mL_spread Q 30 [some (aI s), some (aI tk), some (aR (some aF)), some (aR (some 361)), some (aR (some aT)), some (aR (some aD)), some (aI g), l7, l8, l9] [] (pr I aF f, R, L, S, x, 0, 0) := by
  intro n
  induction n with
  | zero =>
    intros
    exfalso; omega
  | succ n ih =>
    intro f g l7 l8 l9 hf hp
    refine B_L_spread_30 ?_
    try dsimp only
    refine ⟨fun c32_0 => ?_, fun c32_0 => ?_⟩
    · refine B_L_spread_145 ?_
      try dsimp only
      refine ⟨rfl, ?_⟩
      refine hQ f (sp_end ⟨_, hE⟩ hf hs (fun c w hc => ?_))
      rcases hp with ⟨_, _, q⟩ | ⟨q, _⟩
      · exact q c w hc.1 hc.2
      · omega
    · have hp1 : g = 1 ∧ 0 < n + 1 ∧ sumN f 64 + 1 < (n + 1 : Nat) := by
        rcases hp with q | q
        · omega
        · exact q
      have hsb := sumN_b (f := f) (B := 999) 64 (fun k hk => spI_b hf (c := k) ⟨by omega, by omega⟩)
      refine KL_spC hG hA hT hD hET h1 hn hb hE hF hne hs htk (S0 := sumN f 64) (fun f2 g2 l72 l82 l92 hf2 hp2 => ?_) 65 f 0 0 _ _ (by decide) (by omega) hf (Or.inl ⟨rfl, Int.le_refl _, fun c w c0 c1 => by omega⟩)
      refine ih f2 g2 _ _ _ hf2 ?_
      rcases hp2 with ⟨a1, a2, a3⟩ | ⟨a1, a2⟩
      · exact Or.inl ⟨a1, by omega, a3⟩
      · exact Or.inr ⟨a1, by omega, by omega⟩
theorem KL_sp1 {G : amG} {I : Nat → Nat → Int} {R : Nat → Nat → Option Nat} {L : Nat → Nat → Int64} {S : List (Nat × Nat)} {x : Nat} {Q : amR → amH → Prop} (hG : amG0 G) (hA : S[361]? = some (20, 64)) {aT aD : Nat} (hT : S[aT]? = some (20, 48)) (hD : S[aD]? = some (20, 9)) {z : Row} (hET : ET (I aT) z) (h1 : I aD 1 = z 98) (hn : z 98 ≤ 6) (hb : wfB z) (hE : EH (I 361) z) {aF : Nat} (hF : S[aF]? = some (20, 64)) (hne : aF ≠ 361 ∧ aF ≠ aT ∧ aF ≠ aD) {s tk : Int} (hs : is8 s) (htk : -1 ≤ tk) (hQ : ∀ f : Row, (∀ c : Int, is8 c → f c.toNat = d8 z (opM z tk) s c) → Q (Sum.inl none) (pr I aF f, R, L, S, x, 0, 0)) :
    ∀ (n : Nat) (f : Row) (j : Int), 0 ≤ j → (64 - j < n ∧ j ≤ 64) → (∀ i : Nat, (i : Int) < j → f i = 999) → X G mL_spread Q 3 [some (aI s), some (aI tk), some (aR (some aF)), some (aR (some 361)), some (aR (some aT)), some (aR (some aD)), some (aI j), none, none, none] [] (pr I aF f, R, L, S, x, 0, 0) := by
  intro n
  induction n with
  | zero =>
    intros
    exfalso; omega
  | succ n ih =>
    intro f j h0 hj hf
    refine B_L_spread_3 ?_
    try dsimp only
    try simp only [pr_at, u2_pr]
    refine ⟨fun c7_0 => ?_, fun c7_0 => ?_⟩
    · refine B_L_spread_23 ?_
      try dsimp only
      try simp only [pr_at, u2_pr]
      refine ⟨_, hF, ⟨by first | omega | (unfold is8 at hs; omega), by first | omega | (unfold is8 at hs; omega)⟩, ?_⟩
      try simp only [pr_at, u2_pr]
      have hs2 := hs
      unfold is8 at hs2
      have hi : spI z (opM z tk) s (uz f s.toNat 0) := by
        refine ⟨fun c hc => ?_, uz_same _ _ _⟩
        unfold is8 at hc
        by_cases e : c.toNat = s.toNat
        · have e2 : c = s := by omega
          rw [e, uz_same, e2]
          exact Or.inr ⟨by decide, by decide, rfl⟩
        · rw [uz_ne _ _ e]
          exact Or.inl (hf _ (by omega))
      have hsb := sumN_b (f := uz f s.toNat 0) (B := 999) 64 (fun k hk => spI_b hi (c := k) ⟨by omega, by omega⟩)
      exact KL_spW hG hA hT hD hET h1 hn hb hE hF hne hs htk hQ 70000 _ 1 _ _ _ hi (Or.inr ⟨rfl, by decide, by omega⟩)
    · refine ⟨_, hF, ⟨by first | omega | (unfold is8 at hs; omega), by first | omega | (unfold is8 at hs; omega)⟩, ?_⟩
      try simp only [pr_at, u2_pr]
      refine ⟨by (refine ⟨?_, ?_⟩ <;> omega), ?_⟩
      refine ih (uz f j.toNat 999) (j + 1) (by omega) (by omega) (fun i hi => ?_)
      by_cases e : i = j.toNat
      · rw [e, uz_same]
      · rw [uz_ne _ _ e]; exact hf i (by omega)
theorem K_spread {G : amG} {I : Nat → Nat → Int} {R : Nat → Nat → Option Nat} {L : Nat → Nat → Int64} {S : List (Nat × Nat)} {x c t : Nat} {Q : amR → amH → Prop} (hG : amG0 G) (hA : S[361]? = some (20, 64)) {aT aD : Nat} (hT : S[aT]? = some (20, 48)) (hD : S[aD]? = some (20, 9)) {z : Row} (hET : ET (I aT) z) (h1 : I aD 1 = z 98) (hn : z 98 ≤ 6) (hb : wfB z) (hE : EH (I 361) z) {aF : Nat} (hF : S[aF]? = some (20, 64)) (hne : aF ≠ 361 ∧ aF ≠ aT ∧ aF ≠ aD) {s tk : Int} (hs : is8 s) (htk : -1 ≤ tk) (hQ : ∀ f : Row, (∀ c : Int, is8 c → f c.toNat = d8 z (opM z tk) s c) → Q (Sum.inl none) (pr I aF f, R, L, S, x, 0, 0)) : CT G sL_spread [aI s, aI tk, aR (some aF), aR (some 361), aR (some aT), aR (some aD)] (I, R, L, S, x, c, t) Q := by
  refine CT_of ok_L_spread hG (Nat.le_of_ble_eq_true rfl) ?_
  show X G mL_spread Q 0 _ [] (I, R, L, S, x, 0, 0)
  refine B_L_spread_0 ?_
  try dsimp only
  rw [← pr_self I aF]
  exact KL_sp1 hG hA hT hD hET h1 hn hb hE hF hne hs htk hQ 65 (I aF) 0 (by decide) (by omega) (fun i hi => by omega)
