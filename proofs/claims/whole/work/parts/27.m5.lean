/-! ===== the model's rows ===== -/
def m3 (I : Nat → Nat → Int) (z f q : Row) : Nat → Nat → Int := fun a => if a = 362 then z else if a = 365 then f else if a = 366 then q else I a
theorem m3_z (I : Nat → Nat → Int) (z f q : Row) : m3 I z f q 362 = z := rfl
theorem m3_f (I : Nat → Nat → Int) (z f q : Row) : m3 I z f q 365 = f := rfl
theorem m3_q (I : Nat → Nat → Int) (z f q : Row) : m3 I z f q 366 = q := rfl
theorem m3_o (I : Nat → Nat → Int) (z f q : Row) {a : Nat} (h : a ≠ 362 ∧ a ≠ 365 ∧ a ≠ 366) : m3 I z f q a = I a := by
  unfold m3
  rw [if_neg h.1, if_neg h.2.1, if_neg h.2.2]
theorem m3_self (I : Nat → Nat → Int) : m3 I (I 362) (I 365) (I 366) = I := funext (fun a => by
  unfold m3
  split
  · rename_i h; rw [h]
  · split
    · rename_i h; rw [h]
    · split
      · rename_i h; rw [h]
      · rfl)
theorem u2_m3_z (I : Nat → Nat → Int) (z f q : Row) (k : Nat) (v : Int) : u2 (m3 I z f q) 362 k v = m3 I (uz z k v) f q := funext (fun a => by
  by_cases h : a = 362
  · rw [h, u2_at]; rfl
  · rw [u2_off _ _ _ h]; unfold m3; rw [if_neg h, if_neg h])
theorem u2_m3_f (I : Nat → Nat → Int) (z f q : Row) (k : Nat) (v : Int) : u2 (m3 I z f q) 365 k v = m3 I z (uz f k v) q := funext (fun a => by
  by_cases h : a = 365
  · rw [h, u2_at]; rfl
  · rw [u2_off _ _ _ h]; unfold m3; rw [if_neg h, if_neg h])
theorem u2_m3_q (I : Nat → Nat → Int) (z f q : Row) (k : Nat) (v : Int) : u2 (m3 I z f q) 366 k v = m3 I z f (uz q k v) := funext (fun a => by
  by_cases h : a = 366
  · rw [h, u2_at]; rfl
  · rw [u2_off _ _ _ h]; unfold m3; rw [if_neg h, if_neg h])
theorem u2_m3_o (I : Nat → Nat → Int) (z f q : Row) {b : Nat} (k : Nat) (v : Int) (hb : b ≠ 362 ∧ b ≠ 365 ∧ b ≠ 366) : u2 (m3 I z f q) b k v = m3 (u2 I b k v) z f q := funext (fun a => by
  by_cases h : a = b
  · rw [h, u2_at, m3_o _ _ _ _ hb, m3_o _ _ _ _ hb, u2_at]
  · rw [u2_off _ _ _ h]; unfold m3; rw [u2_off _ _ _ h])
/-- over which cells the model's search goes -/
def opM (z : Row) (tr : Int) : Int → Bool := fun t => decide (tr = -1 ∨ tAt z t = -1 ∨ tAt z t = tr)
theorem L_spreadW {G : amG} {I : Nat → Nat → Int} {R : Nat → Nat → Option Nat} {L : Nat → Nat → Int64} {x : Nat} {Q : amR → amH → Prop} (hG : amG0 G) (hR : RM R) {z : Row} (hh : wfH z) (hn : wfN z) {v w : Int} (hv : isC v) {k : Int} (hK : ∀ (f q : Row) (e : Int) (l5 l6 : Option amV), bInv z (opM z w) v (k + 1) 0 f q e → X G mX10_spread Q 40 [some (aR (some 361)), some (aI v), some (aI w), some (aI e), some (aI (k + 1)), l5, l6] [] (m3 I z f q, R, L, SH, x, 0, 0)) :
    ∀ (n : Nat) (d e : Int) (f q : Row) (l6 : Option amV), 4 - d < n ∧ d ≤ 4 → k < e → bInv z (opM z w) v k d f q e → X G mX10_spread Q 49 [some (aR (some 361)), some (aI v), some (aI w), some (aI e), some (aI k), some (aI d), l6] [] (m3 I z f q, R, L, SH, x, 0, 0) := by
  intro n
  induction n with
  | zero =>
    intros
    exfalso; omega
  | succ n ih =>
    intro d e f q l6 h1 hk hi
    have hh' : wfH (m3 I z f q 362) := hh
    have hn' : wfN (m3 I z f q 362) := hn
    have hle := bInv_le hi
    have hq := bInv_q hi hk
    have hq' : 0 ≤ q k.toNat ∧ q k.toNat < 96 := hq.1
    have hqb := bInv_b hi hq.1
    refine B_X10_spread_49 ?_
    try dsimp only
    try simp only [m3_z, m3_f, m3_q, u2_m3_z, u2_m3_f, u2_m3_q, Int.reduceToNat]
    refine ⟨fun c52_0 => ?_, fun c52_0 => ?_⟩
    · refine B_X10_spread_150 ?_
      try dsimp only
      try simp only [m3_z, m3_f, m3_q, u2_m3_z, u2_m3_f, u2_m3_q, Int.reduceToNat]
      refine ⟨by (refine ⟨?_, ?_⟩ <;> omega), ?_⟩
      refine hK _ _ _ _ _ ?_
      have e4 : d = 4 := by omega
      rw [e4] at hi
      exact bInv_next hi hk
    · refine ⟨sh361, _, hR.queue, ?_⟩
      refine ⟨_, sh366, ⟨by omega, by omega⟩, ?_⟩
      try simp only [m3_z, m3_f, m3_q, u2_m3_z, u2_m3_f, u2_m3_q, Int.reduceToNat]
      refine ⟨⟨Nat.zero_le _, Nat.zero_le _, Nat.le_of_ble_eq_true rfl⟩, sh361, ?_⟩
      have hd := hi.1.2.2.2
      refine C_stepTo hG hR hh' hq.1 ⟨hd, by omega⟩ (fun r hr => ?_)
      have hr : r = stT z (q k.toNat) d := hr
      have hc := stT_cell (z := z) hq.1 (d := d) ⟨hd, by omega⟩
      rw [← hr] at hc
      have hc2 : r = -1 ∨ (0 ≤ r ∧ r < 96) := hc.imp id (fun q => q.1)
      have hro : f r.toNat = -1 → r ≠ -1 → e < 96 := fun a b => bInv_room hi (hc.resolve_left b).1 a
      refine af_I0 rfl rfl (by decide) ?_
      try dsimp only
      try simp only [m3_z, m3_f, m3_q, u2_m3_z, u2_m3_f, u2_m3_q, Int.reduceToNat]
      refine B_X10_spread_68 ?_
      try dsimp only
      try simp only [m3_z, m3_f, m3_q, u2_m3_z, u2_m3_f, u2_m3_q, Int.reduceToNat]
      refine ⟨fun c73_1 => ?_, fun c73_1 => ?_⟩
      · refine B_X10_spread_144 ?_
        try dsimp only
        try simp only [m3_z, m3_f, m3_q, u2_m3_z, u2_m3_f, u2_m3_q, Int.reduceToNat]
        refine ⟨by (refine ⟨?_, ?_⟩ <;> omega), ?_⟩
        first | exact ih (d + 1) _ _ _ _ (by omega) (by omega) htk | exact ih (d + 1) _ _ _ _ (by omega) hk (bInv_skip hi hk (by rw [← hr]; first | exact Or.inl (by omega) | exact Or.inr (Or.inl (by omega)) | exact Or.inr (Or.inr (fun u => by have u := of_decide_eq_true u; omega))) (by omega))
      · refine ⟨sh361, _, hR.far, ?_⟩
        refine ⟨_, sh365, ⟨by omega, by omega⟩, ?_⟩
        try simp only [m3_z, m3_f, m3_q, u2_m3_z, u2_m3_f, u2_m3_q, Int.reduceToNat]
        refine ⟨fun c84_1 => ?_, fun c84_1 => ?_⟩
        · refine B_X10_spread_144 ?_
          try dsimp only
          try simp only [m3_z, m3_f, m3_q, u2_m3_z, u2_m3_f, u2_m3_q, Int.reduceToNat]
          refine ⟨by (refine ⟨?_, ?_⟩ <;> omega), ?_⟩
          first | exact ih (d + 1) _ _ _ _ (by omega) (by omega) htk | exact ih (d + 1) _ _ _ _ (by omega) hk (bInv_skip hi hk (by rw [← hr]; first | exact Or.inl (by omega) | exact Or.inr (Or.inl (by omega)) | exact Or.inr (Or.inr (fun u => by have u := of_decide_eq_true u; omega))) (by omega))
        · refine ⟨fun c89_1 => ?_, fun c89_1 => ?_⟩
          · refine B_X10_spread_112 ?_
            try dsimp only
            try simp only [m3_z, m3_f, m3_q, u2_m3_z, u2_m3_f, u2_m3_q, Int.reduceToNat]
            have hro2 := hro (by omega) (by omega)
            have htk := bInv_take hi hk (d := d) (by omega) (by rw [← hr]; omega) (by rw [← hr]; omega) (by rw [← hr]; unfold opM; exact decide_eq_true (by omega)) hv
            rw [← hr] at htk
            refine ⟨sh361, _, hR.far, ?_⟩
            refine ⟨sh361, _, hR.far, ?_⟩
            refine ⟨sh361, _, hR.queue, ?_⟩
            refine ⟨_, sh366, ⟨by omega, by omega⟩, ?_⟩
            try simp only [m3_z, m3_f, m3_q, u2_m3_z, u2_m3_f, u2_m3_q, Int.reduceToNat]
            refine ⟨_, sh365, ⟨by omega, by omega⟩, ?_⟩
            try simp only [m3_z, m3_f, m3_q, u2_m3_z, u2_m3_f, u2_m3_q, Int.reduceToNat]
            refine ⟨by (refine ⟨?_, ?_⟩ <;> omega), ?_⟩
            refine ⟨_, sh365, ⟨by omega, by omega⟩, ?_⟩
            try simp only [m3_z, m3_f, m3_q, u2_m3_z, u2_m3_f, u2_m3_q, Int.reduceToNat]
            refine ⟨sh361, _, hR.queue, ?_⟩
            refine ⟨_, sh366, ⟨by omega, by omega⟩, ?_⟩
            try simp only [m3_z, m3_f, m3_q, u2_m3_z, u2_m3_f, u2_m3_q, Int.reduceToNat]
            refine ⟨by (refine ⟨?_, ?_⟩ <;> omega), ?_⟩
            refine B_X10_spread_144 ?_
            try dsimp only
            try simp only [m3_z, m3_f, m3_q, u2_m3_z, u2_m3_f, u2_m3_q, Int.reduceToNat]
            refine ⟨by (refine ⟨?_, ?_⟩ <;> omega), ?_⟩
            first | exact ih (d + 1) _ _ _ _ (by omega) (by omega) htk | exact ih (d + 1) _ _ _ _ (by omega) hk (bInv_skip hi hk (by rw [← hr]; first | exact Or.inl (by omega) | exact Or.inr (Or.inl (by omega)) | exact Or.inr (Or.inr (fun u => by have u := of_decide_eq_true u; omega))) (by omega))
          · refine ⟨⟨Nat.zero_le _, Nat.zero_le _, Nat.le_of_ble_eq_true rfl⟩, sh361, ?_⟩
            refine C_troopAt hG hR hn' (fun r2 hr2 => ?_)
            have hr2 : r2 = tAt z r := hr2
            refine af_I0 rfl rfl (by decide) ?_
            try dsimp only
            try simp only [m3_z, m3_f, m3_q, u2_m3_z, u2_m3_f, u2_m3_q, Int.reduceToNat]
            refine B_X10_spread_98 ?_
            try dsimp only
            try simp only [m3_z, m3_f, m3_q, u2_m3_z, u2_m3_f, u2_m3_q, Int.reduceToNat]
            refine ⟨fun c99_2 => ?_, fun c99_2 => ?_⟩
            · refine B_X10_spread_112 ?_
              try dsimp only
              try simp only [m3_z, m3_f, m3_q, u2_m3_z, u2_m3_f, u2_m3_q, Int.reduceToNat]
              have hro2 := hro (by omega) (by omega)
              have htk := bInv_take hi hk (d := d) (by omega) (by rw [← hr]; omega) (by rw [← hr]; omega) (by rw [← hr]; unfold opM; exact decide_eq_true (by omega)) hv
              rw [← hr] at htk
              refine ⟨sh361, _, hR.far, ?_⟩
              refine ⟨sh361, _, hR.far, ?_⟩
              refine ⟨sh361, _, hR.queue, ?_⟩
              refine ⟨_, sh366, ⟨by omega, by omega⟩, ?_⟩
              try simp only [m3_z, m3_f, m3_q, u2_m3_z, u2_m3_f, u2_m3_q, Int.reduceToNat]
              refine ⟨_, sh365, ⟨by omega, by omega⟩, ?_⟩
              try simp only [m3_z, m3_f, m3_q, u2_m3_z, u2_m3_f, u2_m3_q, Int.reduceToNat]
              refine ⟨by (refine ⟨?_, ?_⟩ <;> omega), ?_⟩
              refine ⟨_, sh365, ⟨by omega, by omega⟩, ?_⟩
              try simp only [m3_z, m3_f, m3_q, u2_m3_z, u2_m3_f, u2_m3_q, Int.reduceToNat]
              refine ⟨sh361, _, hR.queue, ?_⟩
              refine ⟨_, sh366, ⟨by omega, by omega⟩, ?_⟩
              try simp only [m3_z, m3_f, m3_q, u2_m3_z, u2_m3_f, u2_m3_q, Int.reduceToNat]
              refine ⟨by (refine ⟨?_, ?_⟩ <;> omega), ?_⟩
              refine B_X10_spread_144 ?_
              try dsimp only
              try simp only [m3_z, m3_f, m3_q, u2_m3_z, u2_m3_f, u2_m3_q, Int.reduceToNat]
              refine ⟨by (refine ⟨?_, ?_⟩ <;> omega), ?_⟩
              first | exact ih (d + 1) _ _ _ _ (by omega) (by omega) htk | exact ih (d + 1) _ _ _ _ (by omega) hk (bInv_skip hi hk (by rw [← hr]; first | exact Or.inl (by omega) | exact Or.inr (Or.inl (by omega)) | exact Or.inr (Or.inr (fun u => by have u := of_decide_eq_true u; omega))) (by omega))
            · refine ⟨⟨Nat.zero_le _, Nat.zero_le _, Nat.le_of_ble_eq_true rfl⟩, sh361, ?_⟩
              refine C_troopAt hG hR hn' (fun r3 hr3 => ?_)
              have hr3 : r3 = tAt z r := hr3
              refine af_I0 rfl rfl (by decide) ?_
              try dsimp only
              try simp only [m3_z, m3_f, m3_q, u2_m3_z, u2_m3_f, u2_m3_q, Int.reduceToNat]
              refine B_X10_spread_108 ?_
              try dsimp only
              try simp only [m3_z, m3_f, m3_q, u2_m3_z, u2_m3_f, u2_m3_q, Int.reduceToNat]
              refine ⟨fun c109_3 => ?_, fun c109_3 => ?_⟩
              · refine B_X10_spread_144 ?_
                try dsimp only
                try simp only [m3_z, m3_f, m3_q, u2_m3_z, u2_m3_f, u2_m3_q, Int.reduceToNat]
                refine ⟨by (refine ⟨?_, ?_⟩ <;> omega), ?_⟩
                first | exact ih (d + 1) _ _ _ _ (by omega) (by omega) htk | exact ih (d + 1) _ _ _ _ (by omega) hk (bInv_skip hi hk (by rw [← hr]; first | exact Or.inl (by omega) | exact Or.inr (Or.inl (by omega)) | exact Or.inr (Or.inr (fun u => by have u := of_decide_eq_true u; omega))) (by omega))
              · have hro2 := hro (by omega) (by omega)
                have htk := bInv_take hi hk (d := d) (by omega) (by rw [← hr]; omega) (by rw [← hr]; omega) (by rw [← hr]; unfold opM; exact decide_eq_true (by omega)) hv
                rw [← hr] at htk
                refine B_X10_spread_112 ?_
                try dsimp only
                try simp only [m3_z, m3_f, m3_q, u2_m3_z, u2_m3_f, u2_m3_q, Int.reduceToNat]
                have hro2 := hro (by omega) (by omega)
                have htk := bInv_take hi hk (d := d) (by omega) (by rw [← hr]; omega) (by rw [← hr]; omega) (by rw [← hr]; unfold opM; exact decide_eq_true (by omega)) hv
                rw [← hr] at htk
                refine ⟨sh361, _, hR.far, ?_⟩
                refine ⟨sh361, _, hR.far, ?_⟩
                refine ⟨sh361, _, hR.queue, ?_⟩
                refine ⟨_, sh366, ⟨by omega, by omega⟩, ?_⟩
                try simp only [m3_z, m3_f, m3_q, u2_m3_z, u2_m3_f, u2_m3_q, Int.reduceToNat]
                refine ⟨_, sh365, ⟨by omega, by omega⟩, ?_⟩
                try simp only [m3_z, m3_f, m3_q, u2_m3_z, u2_m3_f, u2_m3_q, Int.reduceToNat]
                refine ⟨by (refine ⟨?_, ?_⟩ <;> omega), ?_⟩
                refine ⟨_, sh365, ⟨by omega, by omega⟩, ?_⟩
                try simp only [m3_z, m3_f, m3_q, u2_m3_z, u2_m3_f, u2_m3_q, Int.reduceToNat]
                refine ⟨sh361, _, hR.queue, ?_⟩
                refine ⟨_, sh366, ⟨by omega, by omega⟩, ?_⟩
                try simp only [m3_z, m3_f, m3_q, u2_m3_z, u2_m3_f, u2_m3_q, Int.reduceToNat]
                refine ⟨by (refine ⟨?_, ?_⟩ <;> omega), ?_⟩
                refine B_X10_spread_144 ?_
                try dsimp only
                try simp only [m3_z, m3_f, m3_q, u2_m3_z, u2_m3_f, u2_m3_q, Int.reduceToNat]
                refine ⟨by (refine ⟨?_, ?_⟩ <;> omega), ?_⟩
                first | exact ih (d + 1) _ _ _ _ (by omega) (by omega) htk | exact ih (d + 1) _ _ _ _ (by omega) hk (bInv_skip hi hk (by rw [← hr]; first | exact Or.inl (by omega) | exact Or.inr (Or.inl (by omega)) | exact Or.inr (Or.inr (fun u => by have u := of_decide_eq_true u; omega))) (by omega))
theorem L_spreadF {G : amG} {I : Nat → Nat → Int} {R : Nat → Nat → Option Nat} {L : Nat → Nat → Int64} {x : Nat} {Q : amR → amH → Prop} (hG : amG0 G) (hR : RM R) {v w : Int} {z q : Row} (hv : isC v) (hK : ∀ f : Row, (∀ i : Nat, i < 96 → f i = -1) → X G mX10_spread Q 21 [some (aR (some 361)), some (aI v), some (aI w), some (aI 96), none, none, none] [] (m3 I z f q, R, L, SH, x, 0, 0)) :
    ∀ (n : Nat) (j : Int) (f : Row), 0 ≤ j → 96 - j < n ∧ j ≤ 96 → (∀ i : Nat, (i : Int) < j → f i = -1) → X G mX10_spread Q 2 [some (aR (some 361)), some (aI v), some (aI w), some (aI j), none, none, none] [] (m3 I z f q, R, L, SH, x, 0, 0) := by
  intro n
  induction n with
  | zero =>
    intros
    exfalso; omega
  | succ n ih =>
    intro j f h0 h1 hf
    refine B_X10_spread_2 ?_
    try dsimp only
    try simp only [m3_z, m3_f, m3_q, u2_m3_z, u2_m3_f, u2_m3_q, Int.reduceToNat]
    refine ⟨fun c5_0 => ?_, fun c5_0 => ?_⟩
    · have e : j = 96 := by omega
      rw [e]
      exact hK f (fun i hi => hf i (by omega))
    · refine ⟨sh361, _, hR.far, ?_⟩
      refine ⟨_, sh365, ⟨by omega, by omega⟩, ?_⟩
      try simp only [m3_z, m3_f, m3_q, u2_m3_z, u2_m3_f, u2_m3_q, Int.reduceToNat]
      refine ⟨by (refine ⟨?_, ?_⟩ <;> omega), ?_⟩
      refine ih (j + 1) _ (by omega) (by omega) (fun i hi => ?_)
      by_cases e : i = j.toNat
      · rw [e, uz_same]
      · rw [uz_ne f _ e]; exact hf i (by omega)
theorem L_spreadK {G : amG} {I : Nat → Nat → Int} {R : Nat → Nat → Option Nat} {L : Nat → Nat → Int64} {x : Nat} {Q : amR → amH → Prop} (hG : amG0 G) (hR : RM R) {z : Row} (hh : wfH z) (hn : wfN z) {v w : Int} (hv : isC v) (hQ : ∀ f q : Row, dSp z (opM z w) v f → Q (Sum.inl none) (m3 I z f q, R, L, SH, x, 0, 0)) :
    ∀ (n : Nat) (k e : Int) (f q : Row) (l5 l6 : Option amV), 96 - k < n ∧ k ≤ 96 → bInv z (opM z w) v k 0 f q e → X G mX10_spread Q 40 [some (aR (some 361)), some (aI v), some (aI w), some (aI e), some (aI k), l5, l6] [] (m3 I z f q, R, L, SH, x, 0, 0) := by
  intro n
  induction n with
  | zero =>
    intros
    exfalso; omega
  | succ n ih =>
    intro k e f q l5 l6 h1 hi
    have hle := bInv_le hi
    refine B_X10_spread_40 ?_
    try dsimp only
    try simp only [m3_z, m3_f, m3_q, u2_m3_z, u2_m3_f, u2_m3_q, Int.reduceToNat]
    refine ⟨fun c43_0 => ?_, fun c43_0 => ?_⟩
    · refine B_X10_spread_156 ?_
      try dsimp only
      try simp only [m3_z, m3_f, m3_q, u2_m3_z, u2_m3_f, u2_m3_q, Int.reduceToNat]
      refine ⟨rfl, ?_⟩
      exact hQ f q (bInv_end hi hv (by omega))
    · exact L_spreadW hG hR hh hn hv (fun f q e l5 l6 hb => ih (k + 1) e f q l5 l6 (by omega) hb) 5 0 e f q l6 (by decide) (by omega) hi
theorem C_spread {G : amG} {I : Nat → Nat → Int} {z f q : Row} {R : Nat → Nat → Option Nat} {L : Nat → Nat → Int64} {x c t : Nat} {Q : amR → amH → Prop} (hG : amG0 G) (hR : RM R) (hh : wfH z) (hn : wfN z) {v w : Int} (hv : isC v) (hQ : ∀ f q : Row, dSp z (opM z w) v f → Q (Sum.inl none) (m3 I z f q, R, L, SH, x, 0, 0)) : CT G sX10_spread [aR (some 361), aI v, aI w] (m3 I z f q, R, L, SH, x, c, t) Q := by
  refine CT_of ok_X10_spread hG (Nat.le_of_ble_eq_true rfl) ?_
  show X G mX10_spread Q 0 _ [] (m3 I z f q, R, L, SH, x, 0, 0)
  refine B_X10_spread_0 ?_
  try dsimp only
  try simp only [m3_z, m3_f, m3_q, u2_m3_z, u2_m3_f, u2_m3_q, Int.reduceToNat]
  refine L_spreadF hG hR hv (fun f hf => ?_) 97 0 f (by decide) (by decide) (fun i hi => by omega)
  have hv' : 0 ≤ v ∧ v < 96 := hv
  refine B_X10_spread_21 ?_
  try dsimp only
  try simp only [m3_z, m3_f, m3_q, u2_m3_z, u2_m3_f, u2_m3_q, Int.reduceToNat]
  refine ⟨sh361, _, hR.far, ?_⟩
  refine ⟨_, sh365, ⟨by omega, by omega⟩, ?_⟩
  try simp only [m3_z, m3_f, m3_q, u2_m3_z, u2_m3_f, u2_m3_q, Int.reduceToNat]
  refine ⟨sh361, _, hR.queue, ?_⟩
  refine ⟨_, sh366, ⟨by omega, by omega⟩, ?_⟩
  try simp only [m3_z, m3_f, m3_q, u2_m3_z, u2_m3_f, u2_m3_q, Int.reduceToNat]
  refine L_spreadK hG hR hh hn hv hQ 97 0 1 _ _ _ _ (by decide) (bInv_start hv (fun j hj => ?_) (uz_same _ _ _))
  by_cases e : j = v.toNat
  · rw [e, uz_same, if_pos rfl]
  · rw [uz_ne f _ e, if_neg e]; exact hf j hj
